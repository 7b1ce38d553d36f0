def wp_CJ_present (p1 : Int32) (I : SI) (F : SF) (Post : Nat → SI → SF → Prop) (PX : Nat → SI → SF → Prop) : Prop := ∃ P1 : Int32 → SI → SF → Prop, wp_CJ_isBelow p1 8 I F P1 ∧ ∀ r1 I1 F1, P1 r1 I1 F1 → ((r1 = 0 → (PX 1 I1 F1)) ∧ (¬ r1 = 0 → (vp_in p1 8 ∧ ((¬ (I1 (20 + 10 * p1.toNatClampNeg)) = 0 → (vp_in p1 8 ∧ (Post p1.toNatClampNeg I1 F1))) ∧ ((I1 (20 + 10 * p1.toNatClampNeg)) = 0 → (PX 1 I1 F1))))))
set_option maxHeartbeats 4000000 in
set_option maxRecDepth 100000 in
theorem c_CJ_present (l : Launch) (hlt : l.stackTraces = false) (D : va_G) (a : Nat → Nat) (cI cZ cQ : ClassId) (hJ : xJ 47 a) (I : SI) (F : SF) (p1 : Int32) (sz : Nat) (Post : Nat → SI → SF → Prop) (PX : Nat → SI → SF → Prop) (hw : wp_CJ_present p1 I F Post PX) : xt_Met l y_CJ_present (Cond.code y_CJ_present b_CJ_present 2 (some (.object "CodeJudge$Method")) :: TB) { frames := 6, cells := 1, slots := 6, locals := 96 } (va_Pc [.ref (a 0), .int p1] (cY D a cI cZ cQ I F sz)) (va_Qr (fun (u : Nat × SI × SF) => u.1 < 8 ∧ Post u.1 u.2.1 u.2.2) (fun u ad t => ad = a (23 + 3 * u.1) ∧ va_P D vwCl (cw a cI cZ cQ u.2.1 u.2.2) t.heap) (xA 47 a sz)) (cXC D a cI cZ cQ PX sz) 1 6 (xA 47 a sz) := by
  refine xt_ofW (cc := b_CJ_present) (maxL := 2) (ret := (some (.object "CodeJudge$Method"))) (by decide) rfl ?_
  intro p e s m args below meth c s₁ B hml hv
  obtain ⟨rfl, ⟨⟨rfl, hP, hK, hN⟩, hZ⟩, hX⟩ := hv
  have hx := B.exec
  have hb := B.bytes
  have hr := B.returns
  have hcd := atoms_spec (ws := Cond.code y_CJ_present b_CJ_present 2 (some (.object "CodeJudge$Method")) :: TB) B.pre _ List.mem_cons_self
  have hts : ∀ w ∈ TB, w.before _ s = true := fun w h => atoms_spec (ws := Cond.code y_CJ_present b_CJ_present 2 (some (.object "CodeJudge$Method")) :: TB) B.pre w (List.mem_cons_of_mem _ h)
  have hown : s.vm.findClass "CodeJudge" = some m.cls := findClass_of_methodNamed B.named
  have hlocks := B.notSynchronized
  have hl := lv_entry ([.ref (a 0), .int p1]) (n := 2) (Nat.le_of_ble_eq_true rfl)
  rw [lg_entry_eq]
  generalize (lg_sl ([.ref (a 0), .int p1]) ++ List.replicate (2 - (lg_sl ([.ref (a 0), .int p1])).length) Slot.unset).toArray = ls at hl ⊢
  have hl : lv_has ls 2 [(0, .ref (a 0)), (1, .int p1)] := hl
  suffices hM : ∀ (H : Heap) (locs : List Loc), va_P D vwCl (cw a cI cZ cQ I F) H → va_S (xA 47 a s.heap.size) s.heap H locs → W p l e (headSpec (Cond.code y_CJ_present b_CJ_present 2 (some (.object "CodeJudge$Method")) :: TB) { frames := 6, cells := 1, slots := 6, locals := 96 }).room s m ([.ref (a 0), .int p1]).toArray below meth c H locs 0 0 (xt_MQ below (va_Qr (fun (u : Nat × SI × SF) => u.1 < 8 ∧ Post u.1 u.2.1 u.2.2) (fun u ad t => ad = a (23 + 3 * u.1) ∧ va_P D vwCl (cw a cI cZ cQ u.2.1 u.2.2) t.heap) (xA 47 a s.heap.size)) (cXC D a cI cZ cQ PX s.heap.size) ([.ref (a 0), .int p1]).toArray s 1 6 (xA 47 a s.heap.size)) (F0 m 0 ls []) from hM s.heap [] hP va_S.rf
  clear hP
  intro H locs hP hS
  dsimp only [wp_CJ_present] at hw
  refine lv_iload_n hx hb dCJ_present_0 rfl (lv_at hl 1 rfl) ?_
  refine lv_bipush (v := 8) hx hb dCJ_present_1 (by decide) ?_
  obtain ⟨P1, hc1, hw⟩ := hw
  refine cc_i (va_runS (As := [.int p1, .int 8]) (rest := []) ⟨hx, hb, hml, hown, hts⟩ (c_CJ_isBelow l D a cI cZ cQ hJ I F p1 8 H.size P1 hc1) (va_cwS 2 hts (tb_S wc_CJ_isBelow tw_2_6 tw_2_7 tw_1_1) rfl rfl rfl (by decide +kernel) ⟨Nat.le_of_ble_eq_true rfl, Nat.le_of_ble_eq_true rfl⟩) ⟨cP_bl, cP_at hP hK hN⟩ rfl rfl hl.1 rfl (lv_room (Nat.le_of_ble_eq_true rfl)) dCJ_present_3 ⟨Nat.le_of_ble_eq_true rfl, Nat.le_of_ble_eq_true rfl⟩) hS (fun r1 I1 F1 H locs hP hp1 hS => ?_)
  have hw := hw r1 I1 F1 hp1
  refine lv_if_eq (tgt := 21) hx hb dCJ_present_6 (by decide) (fun h2 => ?_) (fun h2 => ?_)
  · have hw := hw.1 h2
    exact xt_throw (k := 1) (ik := 34) (ic := 36) (own := "CodeJudge") (cls := "java/util/NoSuchElementException") (names := ["java/lang/RuntimeException", "java/lang/Exception"]) (A := xA 47 a s.heap.size) hx hb hlt hown rfl (by decide +kernel) (by decide +kernel) (hts _ tw_2_9) (hts _ tw_1_13) (xw_hat (by decide) xw_1 hts hX) (xw_off xw_1) hZ hS (hl.1.trans hml.symm) dCJ_present_21 dCJ_present_24 dCJ_present_25 dCJ_present_28 (covers_of_empty (B.noHandlers hcd) _) hlocks (Nat.le_of_ble_eq_true rfl) (Nat.le_of_ble_eq_true rfl) (Nat.le_of_ble_eq_true rfl) (Nat.le_of_ble_eq_true rfl) (fun t h1 h2 => xt_px hP hS hw t h1 h2) hS.2.2 (Nat.le_of_ble_eq_true rfl) (Nat.le_of_ble_eq_true rfl)
  · have hw := hw.2 h2
    refine lv_aload_n hx hb dCJ_present_9 rfl (lv_at hl 0 rfl) ?_
    refine va_get (D := D) (v := .ref (a 1)) (ci := 7) (C := "CodeJudge") (T := T_CJ) (N := 3) hx hb hts in_CJ hown hK hP 0 cw_0 rfl 0 (by decide) (hts (.fieldLink "CodeJudge" 11 "CodeJudge" "methods" "[LCodeJudge$Method;") tw_1_227) (fun _ h9 => h9) rfl dCJ_present_10 ?_
    refine lv_iload_n hx hb dCJ_present_13 rfl (lv_at hl 1 rfl) ?_
    obtain ⟨h3, hw⟩ := hw
    refine va_aldq hx hb hK hP 1 2 cw_1 rfl h3 dCJ_present_14 ?_
    have kh3 := vin_lt h3
    refine va_get (D := D) (v := .int (I1 (20 + 10 * p1.toNatClampNeg))) (ci := 4) (C := "CodeJudge$Method") (T := T_Me) (N := 9) hx hb hts in_Me hown hK hP (23 + 3 * p1.toNatClampNeg) (cw_M kh3) rfl 0 (by decide) (hts (.fieldLink "CodeJudge" 40 "CodeJudge$Method" "there" "Z") tw_1_35) (fun _ h9 => h9) rfl dCJ_present_15 ?_
    refine lv_if_ne (tgt := 29) hx hb dCJ_present_18 (by decide) (fun h4 => ?_) (fun h4 => ?_)
    · have hw := hw.1 h4
      refine lv_aload_n hx hb dCJ_present_29 rfl (lv_at hl 0 rfl) ?_
      refine va_get (D := D) (v := .ref (a 1)) (ci := 7) (C := "CodeJudge") (T := T_CJ) (N := 3) hx hb hts in_CJ hown hK hP 0 cw_0 rfl 0 (by decide) (hts (.fieldLink "CodeJudge" 11 "CodeJudge" "methods" "[LCodeJudge$Method;") tw_1_227) (fun _ h9 => h9) rfl dCJ_present_30 ?_
      refine lv_iload_n hx hb dCJ_present_33 rfl (lv_at hl 1 rfl) ?_
      obtain ⟨h5, hw⟩ := hw
      refine va_aldq hx hb hK hP 1 2 cw_1 rfl h5 dCJ_present_34 ?_
      have kh5 := vin_lt h5
      refine W.widen (k := 1) (n := 6) (Nat.le_of_ble_eq_true rfl) (Nat.le_of_ble_eq_true rfl) ?_
      exact xt_ret (W.aret (v := .ref (a (23 + 3 * p1.toNatClampNeg))) hx hb hr (Or.inl ⟨_, rfl⟩) (Or.inr ⟨_, rfl⟩) (fun t ht hW => ⟨⟨(p1.toNatClampNeg, I1, F1), _, rfl, ⟨kh5, hw⟩, rfl, by subst ht; exact hP⟩, hS.F ht⟩) hS.2.2 dCJ_present_35)
    · have hw := hw.2 h4
      exact xt_throw (k := 1) (ik := 34) (ic := 36) (own := "CodeJudge") (cls := "java/util/NoSuchElementException") (names := ["java/lang/RuntimeException", "java/lang/Exception"]) (A := xA 47 a s.heap.size) hx hb hlt hown rfl (by decide +kernel) (by decide +kernel) (hts _ tw_2_9) (hts _ tw_1_13) (xw_hat (by decide) xw_1 hts hX) (xw_off xw_1) hZ hS (hl.1.trans hml.symm) dCJ_present_21 dCJ_present_24 dCJ_present_25 dCJ_present_28 (covers_of_empty (B.noHandlers hcd) _) hlocks (Nat.le_of_ble_eq_true rfl) (Nat.le_of_ble_eq_true rfl) (Nat.le_of_ble_eq_true rfl) (Nat.le_of_ble_eq_true rfl) (fun t h1 h2 => xt_px hP hS hw t h1 h2) hS.2.2 (Nat.le_of_ble_eq_true rfl) (Nat.le_of_ble_eq_true rfl)
def wp_CJ_presentWith (p1 : Int32) (p2 : Int32) (I : SI) (F : SF) (Post : Nat → SI → SF → Prop) (PX : Nat → SI → SF → Prop) : Prop := ∃ (P1 : Nat → SI → SF → Prop) (PX1 : Nat → SI → SF → Prop), wp_CJ_present p1 I F P1 PX1 ∧ (∀ k I F, PX1 k I F → PX k I F) ∧ ∀ r1 I1 F1, P1 r1 I1 F1 → (∃ P2 : Int32 → SI → SF → Prop, wp_Me_has r1 p2 I1 F1 P2 ∧ ∀ r2 I2 F2, P2 r2 I2 F2 → ((¬ r2 = 0 → (Post r1 I2 F2)) ∧ (r2 = 0 → (PX 1 I2 F2))))
set_option maxHeartbeats 4000000 in
set_option maxRecDepth 100000 in
theorem c_CJ_presentWith (l : Launch) (hlt : l.stackTraces = false) (D : va_G) (a : Nat → Nat) (cI cZ cQ : ClassId) (hJ : xJ 47 a) (I : SI) (F : SF) (p1 : Int32) (p2 : Int32) (sz : Nat) (Post : Nat → SI → SF → Prop) (PX : Nat → SI → SF → Prop) (hw : wp_CJ_presentWith p1 p2 I F Post PX) : xt_Met l y_CJ_presentWith (Cond.code y_CJ_presentWith b_CJ_presentWith 4 (some (.object "CodeJudge$Method")) :: TB) { frames := 7, cells := 2, slots := 12, locals := 117 } (va_Pc [.ref (a 0), .int p1, .int p2] (cY D a cI cZ cQ I F sz)) (va_Qr (fun (u : Nat × SI × SF) => u.1 < 8 ∧ Post u.1 u.2.1 u.2.2) (fun u ad t => ad = a (23 + 3 * u.1) ∧ va_P D vwCl (cw a cI cZ cQ u.2.1 u.2.2) t.heap) (xA 47 a sz)) (cXC D a cI cZ cQ PX sz) 2 12 (xA 47 a sz) := by
  refine xt_ofW (cc := b_CJ_presentWith) (maxL := 4) (ret := (some (.object "CodeJudge$Method"))) (by decide) rfl ?_
  intro p e s m args below meth c s₁ B hml hv
  obtain ⟨rfl, ⟨⟨rfl, hP, hK, hN⟩, hZ⟩, hX⟩ := hv
  have hx := B.exec
  have hb := B.bytes
  have hr := B.returns
  have hcd := atoms_spec (ws := Cond.code y_CJ_presentWith b_CJ_presentWith 4 (some (.object "CodeJudge$Method")) :: TB) B.pre _ List.mem_cons_self
  have hts : ∀ w ∈ TB, w.before _ s = true := fun w h => atoms_spec (ws := Cond.code y_CJ_presentWith b_CJ_presentWith 4 (some (.object "CodeJudge$Method")) :: TB) B.pre w (List.mem_cons_of_mem _ h)
  have hown : s.vm.findClass "CodeJudge" = some m.cls := findClass_of_methodNamed B.named
  have hlocks := B.notSynchronized
  have hl := lv_entry ([.ref (a 0), .int p1, .int p2]) (n := 4) (Nat.le_of_ble_eq_true rfl)
  rw [lg_entry_eq]
  generalize (lg_sl ([.ref (a 0), .int p1, .int p2]) ++ List.replicate (4 - (lg_sl ([.ref (a 0), .int p1, .int p2])).length) Slot.unset).toArray = ls at hl ⊢
  have hl : lv_has ls 4 [(0, .ref (a 0)), (1, .int p1), (2, .int p2)] := hl
  suffices hM : ∀ (H : Heap) (locs : List Loc), va_P D vwCl (cw a cI cZ cQ I F) H → va_S (xA 47 a s.heap.size) s.heap H locs → W p l e (headSpec (Cond.code y_CJ_presentWith b_CJ_presentWith 4 (some (.object "CodeJudge$Method")) :: TB) { frames := 7, cells := 2, slots := 12, locals := 117 }).room s m ([.ref (a 0), .int p1, .int p2]).toArray below meth c H locs 0 0 (xt_MQ below (va_Qr (fun (u : Nat × SI × SF) => u.1 < 8 ∧ Post u.1 u.2.1 u.2.2) (fun u ad t => ad = a (23 + 3 * u.1) ∧ va_P D vwCl (cw a cI cZ cQ u.2.1 u.2.2) t.heap) (xA 47 a s.heap.size)) (cXC D a cI cZ cQ PX s.heap.size) ([.ref (a 0), .int p1, .int p2]).toArray s 2 12 (xA 47 a s.heap.size)) (F0 m 0 ls []) from hM s.heap [] hP va_S.rf
  clear hP
  intro H locs hP hS
  dsimp only [wp_CJ_presentWith] at hw
  refine lv_aload_n hx hb dCJ_presentWith_0 rfl (lv_at hl 0 rfl) ?_
  refine lv_iload_n hx hb dCJ_presentWith_1 rfl (lv_at hl 1 rfl) ?_
  obtain ⟨P1, PX1, hc1, hx1, hw⟩ := hw
  refine cx_r (xt_runV (As := [.int p1]) (rest := []) ⟨hx, hb, hml, hown, hts⟩ (c_CJ_present l hlt D a cI cZ cQ hJ I F p1 H.size P1 PX1 hc1) (cwV 1 hts (tb_V (C := "CodeJudge") wc_CJ_present tw_2_103 tw_2_105 tw_0_1 tw_1_1) rfl rfl rfl (by decide +kernel) ⟨Nat.le_of_ble_eq_true rfl, Nat.le_of_ble_eq_true rfl⟩) ⟨cY_bl, va_recv hK hP rfl cw_0, cY_at hP hK hN hZ hX hS⟩ rfl rfl hl.1 rfl (lv_room (Nat.le_of_ble_eq_true rfl)) dCJ_presentWith_2 ⟨Nat.le_of_ble_eq_true rfl, Nat.le_of_ble_eq_true rfl⟩) hS (fun k1 q1 I1 F1 H locs hP hp1 hS hO => xt_out (covers_of_empty (B.noHandlers hcd) _) hlocks hO (fun t ht => ⟨(I1, F1), hx1 k1 I1 F1 hp1, by subst ht; exact hP, hS.F ht⟩) hS.2.2 (Nat.le_of_ble_eq_true rfl) (Nat.le_of_ble_eq_true rfl)) (fun r1 I1 F1 H locs hr1 hP hp1 hS => ?_)
  have hw := hw r1 I1 F1 hp1
  refine lv_astore_n (lv' := [(3, .ref (a (23 + 3 * r1))), (0, .ref (a 0)), (1, .int p1), (2, .int p2)]) hx hb dCJ_presentWith_5 rfl hl (by decide) rfl (fun ls hl => ?_)
  refine lv_aload_n hx hb dCJ_presentWith_6 rfl (lv_at hl 0 rfl) ?_
  refine lv_iload_n hx hb dCJ_presentWith_7 rfl (lv_at hl 3 rfl) ?_
  obtain ⟨P2, hc2, hw⟩ := hw
  refine cc_i (va_runV (As := [.int p2]) (rest := []) ⟨hx, hb, hml, hown, hts⟩ (c_Me_has l D a cI cZ cQ hJ I1 F1 r1 p2 hr1 H.size P2 hc2) (cwV 1 hts (tb_V (C := "CodeJudge$Method") wc_Me_has tw_2_137 tw_2_138 tw_2_139 tw_1_2) rfl rfl rfl (by decide +kernel) ⟨Nat.le_of_ble_eq_true rfl, Nat.le_of_ble_eq_true rfl⟩) ⟨cP_bl, va_recv hK hP rfl (cw_M hr1), cP_at hP hK hN⟩ rfl rfl hl.1 rfl (lv_room (Nat.le_of_ble_eq_true rfl)) dCJ_presentWith_8 ⟨Nat.le_of_ble_eq_true rfl, Nat.le_of_ble_eq_true rfl⟩) hS (fun r2 I2 F2 H locs hP hp2 hS => ?_)
  have hw := hw r2 I2 F2 hp2
  refine lv_if_ne (tgt := 22) hx hb dCJ_presentWith_11 (by decide) (fun h3 => ?_) (fun h3 => ?_)
  · have hw := hw.1 h3
    refine lv_aload_n hx hb dCJ_presentWith_22 rfl (lv_at hl 0 rfl) ?_
    refine W.widen (k := 2) (n := 12) (Nat.le_of_ble_eq_true rfl) (Nat.le_of_ble_eq_true rfl) ?_
    exact xt_ret (W.aret (v := .ref (a (23 + 3 * r1))) hx hb hr (Or.inl ⟨_, rfl⟩) (Or.inr ⟨_, rfl⟩) (fun t ht hW => ⟨⟨(r1, I2, F2), _, rfl, ⟨hr1, hw⟩, rfl, by subst ht; exact hP⟩, hS.F ht⟩) hS.2.2 dCJ_presentWith_23)
  · have hw := hw.2 h3
    exact xt_throw (k := 1) (ik := 34) (ic := 36) (own := "CodeJudge") (cls := "java/util/NoSuchElementException") (names := ["java/lang/RuntimeException", "java/lang/Exception"]) (A := xA 47 a s.heap.size) hx hb hlt hown rfl (by decide +kernel) (by decide +kernel) (hts _ tw_2_9) (hts _ tw_1_13) (xw_hat (by decide) xw_1 hts hX) (xw_off xw_1) hZ hS (hl.1.trans hml.symm) dCJ_presentWith_14 dCJ_presentWith_17 dCJ_presentWith_18 dCJ_presentWith_21 (covers_of_empty (B.noHandlers hcd) _) hlocks (Nat.le_of_ble_eq_true rfl) (Nat.le_of_ble_eq_true rfl) (Nat.le_of_ble_eq_true rfl) (Nat.le_of_ble_eq_true rfl) (fun t h1 h2 => xt_px hP hS hw t h1 h2) hS.2.2 (Nat.le_of_ble_eq_true rfl) (Nat.le_of_ble_eq_true rfl)
def wp_CJ_needGood (k1 : Nat) (I : SI) (F : SF) (Post : SI → SF → Prop) (PX : Nat → SI → SF → Prop) : Prop := ∃ P1 : Int32 → SI → SF → Prop, wp_Ju_approves k1 I F P1 ∧ ∀ r1 I1 F1, P1 r1 I1 F1 → ((¬ r1 = 0 → (Post I1 F1)) ∧ (r1 = 0 → (PX 3 I1 F1)))
set_option maxHeartbeats 4000000 in
set_option maxRecDepth 100000 in
theorem c_CJ_needGood (l : Launch) (hlt : l.stackTraces = false) (D : va_G) (a : Nat → Nat) (cI cZ cQ : ClassId) (hJ : xJ 47 a) (I : SI) (F : SF) (k1 : Nat) (hk1 : k1 < 8) (sz : Nat) (Post : SI → SF → Prop) (PX : Nat → SI → SF → Prop) (hw : wp_CJ_needGood k1 I F Post PX) : xt_Met l y_CJ_needGood (Cond.code y_CJ_needGood b_CJ_needGood 2 none :: TB) { frames := 6, cells := 1, slots := 6, locals := 115 } (va_Pc [.ref (a 0), .ref (a (23 + 3 * k1))] (cY D a cI cZ cQ I F sz)) (va_Qv (fun (u : SI × SF) => Post u.1 u.2) (fun u t => va_P D vwCl (cw a cI cZ cQ u.1 u.2) t.heap) (xA 47 a sz)) (cXC D a cI cZ cQ PX sz) 1 6 (xA 47 a sz) := by
  refine xt_ofW (cc := b_CJ_needGood) (maxL := 2) (ret := none) (by decide) rfl ?_
  intro p e s m args below meth c s₁ B hml hv
  obtain ⟨rfl, ⟨⟨rfl, hP, hK, hN⟩, hZ⟩, hX⟩ := hv
  have hx := B.exec
  have hb := B.bytes
  have hr := B.returns
  have hcd := atoms_spec (ws := Cond.code y_CJ_needGood b_CJ_needGood 2 none :: TB) B.pre _ List.mem_cons_self
  have hts : ∀ w ∈ TB, w.before _ s = true := fun w h => atoms_spec (ws := Cond.code y_CJ_needGood b_CJ_needGood 2 none :: TB) B.pre w (List.mem_cons_of_mem _ h)
  have hown : s.vm.findClass "CodeJudge" = some m.cls := findClass_of_methodNamed B.named
  have hlocks := B.notSynchronized
  have hl := lv_entry ([.ref (a 0), .ref (a (23 + 3 * k1))]) (n := 2) (Nat.le_of_ble_eq_true rfl)
  rw [lg_entry_eq]
  generalize (lg_sl ([.ref (a 0), .ref (a (23 + 3 * k1))]) ++ List.replicate (2 - (lg_sl ([.ref (a 0), .ref (a (23 + 3 * k1))])).length) Slot.unset).toArray = ls at hl ⊢
  have hl : lv_has ls 2 [(0, .ref (a 0)), (1, .ref (a (23 + 3 * k1)))] := hl
  suffices hM : ∀ (H : Heap) (locs : List Loc), va_P D vwCl (cw a cI cZ cQ I F) H → va_S (xA 47 a s.heap.size) s.heap H locs → W p l e (headSpec (Cond.code y_CJ_needGood b_CJ_needGood 2 none :: TB) { frames := 6, cells := 1, slots := 6, locals := 115 }).room s m ([.ref (a 0), .ref (a (23 + 3 * k1))]).toArray below meth c H locs 0 0 (xt_MQ below (va_Qv (fun (u : SI × SF) => Post u.1 u.2) (fun u t => va_P D vwCl (cw a cI cZ cQ u.1 u.2) t.heap) (xA 47 a s.heap.size)) (cXC D a cI cZ cQ PX s.heap.size) ([.ref (a 0), .ref (a (23 + 3 * k1))]).toArray s 1 6 (xA 47 a s.heap.size)) (F0 m 0 ls []) from hM s.heap [] hP va_S.rf
  clear hP
  intro H locs hP hS
  dsimp only [wp_CJ_needGood] at hw
  refine lv_aload_n hx hb dCJ_needGood_0 rfl (lv_at hl 0 rfl) ?_
  refine va_get (D := D) (v := .ref (a 2)) (ci := 7) (C := "CodeJudge") (T := T_CJ) (N := 3) hx hb hts in_CJ hown hK hP 0 cw_0 rfl 1 (by decide) (hts (.fieldLink "CodeJudge" 19 "CodeJudge" "judge" "LCodeJudge$Judge;") tw_1_228) (fun _ h9 => h9) rfl dCJ_needGood_1 ?_
  refine lv_aload_n hx hb dCJ_needGood_4 rfl (lv_at hl 0 rfl) ?_
  refine va_get (D := D) (v := .ref (a 1)) (ci := 7) (C := "CodeJudge") (T := T_CJ) (N := 3) hx hb hts in_CJ hown hK hP 0 cw_0 rfl 0 (by decide) (hts (.fieldLink "CodeJudge" 11 "CodeJudge" "methods" "[LCodeJudge$Method;") tw_1_227) (fun _ h9 => h9) rfl dCJ_needGood_5 ?_
  refine lv_aload_n hx hb dCJ_needGood_8 rfl (lv_at hl 1 rfl) ?_
  obtain ⟨P1, hc1, hw⟩ := hw
  refine cc_i (va_runV (As := [.ref (a 1), .ref (a (23 + 3 * k1))]) (rest := []) ⟨hx, hb, hml, hown, hts⟩ (c_Ju_approves l D a cI cZ cQ hJ I F k1 hk1 H.size P1 hc1) (cwV 2 hts (tb_V (C := "CodeJudge$Judge") wc_Ju_approves tw_2_169 tw_2_170 tw_2_171 tw_1_3) rfl rfl rfl (by decide +kernel) ⟨Nat.le_of_ble_eq_true rfl, Nat.le_of_ble_eq_true rfl⟩) ⟨cP_bl, va_recv hK hP rfl cw_2, cP_at hP hK hN⟩ rfl rfl hl.1 rfl (lv_room (Nat.le_of_ble_eq_true rfl)) dCJ_needGood_9 ⟨Nat.le_of_ble_eq_true rfl, Nat.le_of_ble_eq_true rfl⟩) hS (fun r1 I1 F1 H locs hP hp1 hS => ?_)
  have hw := hw r1 I1 F1 hp1
  refine lv_if_ne (tgt := 23) hx hb dCJ_needGood_12 (by decide) (fun h2 => ?_) (fun h2 => ?_)
  · have hw := hw.1 h2
    refine W.widen (k := 1) (n := 6) (Nat.le_of_ble_eq_true rfl) (Nat.le_of_ble_eq_true rfl) ?_
    exact xt_ret (W.vret hx hb hr (fun t ht hW => ⟨⟨(I1, F1), rfl, hw, by subst ht; exact hP⟩, hS.F ht⟩) hS.2.2 dCJ_needGood_23)
  · have hw := hw.2 h2
    exact xt_throw (k := 3) (ik := 61) (ic := 63) (own := "CodeJudge") (cls := "java/lang/IllegalStateException") (names := ["java/lang/RuntimeException", "java/lang/Exception"]) (A := xA 47 a s.heap.size) hx hb hlt hown rfl (by decide +kernel) (by decide +kernel) (hts _ tw_2_107) (hts _ tw_1_15) (xw_hat (by decide) xw_3 hts hX) (xw_off xw_3) hZ hS (hl.1.trans hml.symm) dCJ_needGood_15 dCJ_needGood_18 dCJ_needGood_19 dCJ_needGood_22 (covers_of_empty (B.noHandlers hcd) _) hlocks (Nat.le_of_ble_eq_true rfl) (Nat.le_of_ble_eq_true rfl) (Nat.le_of_ble_eq_true rfl) (Nat.le_of_ble_eq_true rfl) (fun t h1 h2 => xt_px hP hS hw t h1 h2) hS.2.2 (Nat.le_of_ble_eq_true rfl) (Nat.le_of_ble_eq_true rfl)
def wp_CJ_needRun (I : SI) (F : SF) (Post : SI → SF → Prop) (PX : Nat → SI → SF → Prop) : Prop := (¬ (I 1) = 0 → (Post I F)) ∧ ((I 1) = 0 → (PX 3 I F))
set_option maxHeartbeats 4000000 in
set_option maxRecDepth 100000 in
theorem c_CJ_needRun (l : Launch) (hlt : l.stackTraces = false) (D : va_G) (a : Nat → Nat) (cI cZ cQ : ClassId) (hJ : xJ 47 a) (I : SI) (F : SF) (sz : Nat) (Post : SI → SF → Prop) (PX : Nat → SI → SF → Prop) (hw : wp_CJ_needRun I F Post PX) : xt_Met l y_CJ_needRun (Cond.code y_CJ_needRun b_CJ_needRun 1 none :: TB) { frames := 6, cells := 1, slots := 6, locals := 96 } (va_Pc [.ref (a 0)] (cY D a cI cZ cQ I F sz)) (va_Qv (fun (u : SI × SF) => Post u.1 u.2) (fun u t => va_P D vwCl (cw a cI cZ cQ u.1 u.2) t.heap) (xA 47 a sz)) (cXC D a cI cZ cQ PX sz) 1 6 (xA 47 a sz) := by
  refine xt_ofW (cc := b_CJ_needRun) (maxL := 1) (ret := none) (by decide) rfl ?_
  intro p e s m args below meth c s₁ B hml hv
  obtain ⟨rfl, ⟨⟨rfl, hP, hK, hN⟩, hZ⟩, hX⟩ := hv
  have hx := B.exec
  have hb := B.bytes
  have hr := B.returns
  have hcd := atoms_spec (ws := Cond.code y_CJ_needRun b_CJ_needRun 1 none :: TB) B.pre _ List.mem_cons_self
  have hts : ∀ w ∈ TB, w.before _ s = true := fun w h => atoms_spec (ws := Cond.code y_CJ_needRun b_CJ_needRun 1 none :: TB) B.pre w (List.mem_cons_of_mem _ h)
  have hown : s.vm.findClass "CodeJudge" = some m.cls := findClass_of_methodNamed B.named
  have hlocks := B.notSynchronized
  have hl := lv_entry ([.ref (a 0)]) (n := 1) (Nat.le_of_ble_eq_true rfl)
  rw [lg_entry_eq]
  generalize (lg_sl ([.ref (a 0)]) ++ List.replicate (1 - (lg_sl ([.ref (a 0)])).length) Slot.unset).toArray = ls at hl ⊢
  have hl : lv_has ls 1 [(0, .ref (a 0))] := hl
  suffices hM : ∀ (H : Heap) (locs : List Loc), va_P D vwCl (cw a cI cZ cQ I F) H → va_S (xA 47 a s.heap.size) s.heap H locs → W p l e (headSpec (Cond.code y_CJ_needRun b_CJ_needRun 1 none :: TB) { frames := 6, cells := 1, slots := 6, locals := 96 }).room s m ([.ref (a 0)]).toArray below meth c H locs 0 0 (xt_MQ below (va_Qv (fun (u : SI × SF) => Post u.1 u.2) (fun u t => va_P D vwCl (cw a cI cZ cQ u.1 u.2) t.heap) (xA 47 a s.heap.size)) (cXC D a cI cZ cQ PX s.heap.size) ([.ref (a 0)]).toArray s 1 6 (xA 47 a s.heap.size)) (F0 m 0 ls []) from hM s.heap [] hP va_S.rf
  clear hP
  intro H locs hP hS
  dsimp only [wp_CJ_needRun] at hw
  refine lv_aload_n hx hb dCJ_needRun_0 rfl (lv_at hl 0 rfl) ?_
  refine va_get (D := D) (v := .ref (a 3)) (ci := 7) (C := "CodeJudge") (T := T_CJ) (N := 3) hx hb hts in_CJ hown hK hP 0 cw_0 rfl 2 (by decide) (hts (.fieldLink "CodeJudge" 26 "CodeJudge" "machine" "LCodeJudge$Machine;") tw_1_229) (fun _ h9 => h9) rfl dCJ_needRun_1 ?_
  refine va_get (D := D) (v := .int (I 1)) (ci := 3) (C := "CodeJudge$Machine") (T := T_Ma) (N := 7) hx hb hts in_Ma hown hK hP 3 cw_3 rfl 0 (by decide) (hts (.fieldLink "CodeJudge" 128 "CodeJudge$Machine" "there" "Z") tw_1_202) (fun _ h9 => h9) rfl dCJ_needRun_4 ?_
  refine lv_if_ne (tgt := 18) hx hb dCJ_needRun_7 (by decide) (fun h1 => ?_) (fun h1 => ?_)
  · have hw := hw.1 h1
    refine W.widen (k := 1) (n := 6) (Nat.le_of_ble_eq_true rfl) (Nat.le_of_ble_eq_true rfl) ?_
    exact xt_ret (W.vret hx hb hr (fun t ht hW => ⟨⟨(I, F), rfl, hw, by subst ht; exact hP⟩, hS.F ht⟩) hS.2.2 dCJ_needRun_18)
  · have hw := hw.2 h1
    exact xt_throw (k := 3) (ik := 61) (ic := 63) (own := "CodeJudge") (cls := "java/lang/IllegalStateException") (names := ["java/lang/RuntimeException", "java/lang/Exception"]) (A := xA 47 a s.heap.size) hx hb hlt hown rfl (by decide +kernel) (by decide +kernel) (hts _ tw_2_107) (hts _ tw_1_15) (xw_hat (by decide) xw_3 hts hX) (xw_off xw_3) hZ hS (hl.1.trans hml.symm) dCJ_needRun_10 dCJ_needRun_13 dCJ_needRun_14 dCJ_needRun_17 (covers_of_empty (B.noHandlers hcd) _) hlocks (Nat.le_of_ble_eq_true rfl) (Nat.le_of_ble_eq_true rfl) (Nat.le_of_ble_eq_true rfl) (Nat.le_of_ble_eq_true rfl) (fun t h1 h2 => xt_px hP hS hw t h1 h2) hS.2.2 (Nat.le_of_ble_eq_true rfl) (Nat.le_of_ble_eq_true rfl)
def wp_CJ_method (p1 : Int32) (p2 : Int32) (p3 : Int32) (p4 : Int32) (p5 : Int32) (p6 : Int32) (I : SI) (F : SF) (Post : Int32 → SI → SF → Prop) (PX : Nat → SI → SF → Prop) : Prop := ∃ P1 : Int32 → SI → SF → Prop, wp_CJ_isBelow p1 8 I F P1 ∧ ∀ r1 I1 F1, P1 r1 I1 F1 → ((¬ r1 = 0 → (∃ P3 : Int32 → SI → SF → Prop, wp_CJ_isBelow p2 5 I1 F1 P3 ∧ ∀ r3 I3 F3, P3 r3 I3 F3 → ((r3 = 0 → (PX 2 I3 F3)) ∧ (¬ r3 = 0 → ((¬ (p3 >>> (p2 &&& 31)) = 0 → (PX 2 I3 F3)) ∧ ((p3 >>> (p2 &&& 31)) = 0 → (∃ P6 : Int32 → SI → SF → Prop, wp_CJ_isBelow p4 3 I3 F3 P6 ∧ ∀ r6 I6 F6, P6 r6 I6 F6 → ((r6 = 0 → (PX 2 I6 F6)) ∧ (¬ r6 = 0 → ((p5 < p2 → (PX 2 I6 F6)) ∧ (¬ p5 < p2 → ((10 < p5 → (PX 2 I6 F6)) ∧ (¬ 10 < p5 → (∃ P10 : Int32 → SI → SF → Prop, wp_CJ_isBelow p6 16 I6 F6 P10 ∧ ∀ r10 I10 F10, P10 r10 I10 F10 → ((¬ r10 = 0 → (vp_in p1 8 ∧ (∀ x13 : Int32, x13 = (I10 (20 + 10 * p1.toNatClampNeg)) → (∃ P14 : SI → SF → Prop, wp_Me_begin p1.toNatClampNeg p2 p3 p4 p5 p6 I10 F10 P14 ∧ ∀ I14 F14, P14 I14 F14 → (∃ P15 : SI → SF → Prop, wp_Ma_forget I14 F14 P15 ∧ ∀ I15 F15, P15 I15 F15 → (bo x13 ∧ Post x13 I15 F15)))))) ∧ (r10 = 0 → (PX 2 I10 F10))))))))))))))))) ∧ (r1 = 0 → (PX 1 I1 F1)))
set_option maxHeartbeats 4000000 in
set_option maxRecDepth 100000 in
theorem c_CJ_method (l : Launch) (hlt : l.stackTraces = false) (D : va_G) (a : Nat → Nat) (cI cZ cQ : ClassId) (hJ : xJ 47 a) (I : SI) (F : SF) (p1 : Int32) (p2 : Int32) (p3 : Int32) (p4 : Int32) (p5 : Int32) (p6 : Int32) (sz : Nat) (Post : Int32 → SI → SF → Prop) (PX : Nat → SI → SF → Prop) (hw : wp_CJ_method p1 p2 p3 p4 p5 p6 I F Post PX) : xt_Met l y_CJ_method (Cond.code y_CJ_method b_CJ_method 9 (some .boolean) :: TB) { frames := 6, cells := 1, slots := 6, locals := 96 } (va_Pc [.ref (a 0), .int p1, .int p2, .int p3, .int p4, .int p5, .int p6] (cY D a cI cZ cQ I F sz)) (va_Qi (fun r (u : SI × SF) => Post r u.1 u.2) (fun u t => va_P D vwCl (cw a cI cZ cQ u.1 u.2) t.heap) (xA 47 a sz)) (cXC D a cI cZ cQ PX sz) 1 6 (xA 47 a sz) := by
  refine xt_ofW (cc := b_CJ_method) (maxL := 9) (ret := (some .boolean)) (by decide) rfl ?_
  intro p e s m args below meth c s₁ B hml hv
  obtain ⟨rfl, ⟨⟨rfl, hP, hK, hN⟩, hZ⟩, hX⟩ := hv
  have hx := B.exec
  have hb := B.bytes
  have hr := B.returns
  have hcd := atoms_spec (ws := Cond.code y_CJ_method b_CJ_method 9 (some .boolean) :: TB) B.pre _ List.mem_cons_self
  have hts : ∀ w ∈ TB, w.before _ s = true := fun w h => atoms_spec (ws := Cond.code y_CJ_method b_CJ_method 9 (some .boolean) :: TB) B.pre w (List.mem_cons_of_mem _ h)
  have hown : s.vm.findClass "CodeJudge" = some m.cls := findClass_of_methodNamed B.named
  have hlocks := B.notSynchronized
  have hl := lv_entry ([.ref (a 0), .int p1, .int p2, .int p3, .int p4, .int p5, .int p6]) (n := 9) (Nat.le_of_ble_eq_true rfl)
  rw [lg_entry_eq]
  generalize (lg_sl ([.ref (a 0), .int p1, .int p2, .int p3, .int p4, .int p5, .int p6]) ++ List.replicate (9 - (lg_sl ([.ref (a 0), .int p1, .int p2, .int p3, .int p4, .int p5, .int p6])).length) Slot.unset).toArray = ls at hl ⊢
  have hl : lv_has ls 9 [(0, .ref (a 0)), (1, .int p1), (2, .int p2), (3, .int p3), (4, .int p4), (5, .int p5), (6, .int p6)] := hl
  suffices hM : ∀ (H : Heap) (locs : List Loc), va_P D vwCl (cw a cI cZ cQ I F) H → va_S (xA 47 a s.heap.size) s.heap H locs → W p l e (headSpec (Cond.code y_CJ_method b_CJ_method 9 (some .boolean) :: TB) { frames := 6, cells := 1, slots := 6, locals := 96 }).room s m ([.ref (a 0), .int p1, .int p2, .int p3, .int p4, .int p5, .int p6]).toArray below meth c H locs 0 0 (xt_MQ below (va_Qi (fun r (u : SI × SF) => Post r u.1 u.2) (fun u t => va_P D vwCl (cw a cI cZ cQ u.1 u.2) t.heap) (xA 47 a s.heap.size)) (cXC D a cI cZ cQ PX s.heap.size) ([.ref (a 0), .int p1, .int p2, .int p3, .int p4, .int p5, .int p6]).toArray s 1 6 (xA 47 a s.heap.size)) (F0 m 0 ls []) from hM s.heap [] hP va_S.rf
  clear hP
  intro H locs hP hS
  dsimp only [wp_CJ_method] at hw
  refine lv_iload_n hx hb dCJ_method_0 rfl (lv_at hl 1 rfl) ?_
  refine lv_bipush (v := 8) hx hb dCJ_method_1 (by decide) ?_
  obtain ⟨P1, hc1, hw⟩ := hw
  refine cc_i (va_runS (As := [.int p1, .int 8]) (rest := []) ⟨hx, hb, hml, hown, hts⟩ (c_CJ_isBelow l D a cI cZ cQ hJ I F p1 8 H.size P1 hc1) (va_cwS 2 hts (tb_S wc_CJ_isBelow tw_2_6 tw_2_7 tw_1_1) rfl rfl rfl (by decide +kernel) ⟨Nat.le_of_ble_eq_true rfl, Nat.le_of_ble_eq_true rfl⟩) ⟨cP_bl, cP_at hP hK hN⟩ rfl rfl hl.1 rfl (lv_room (Nat.le_of_ble_eq_true rfl)) dCJ_method_3 ⟨Nat.le_of_ble_eq_true rfl, Nat.le_of_ble_eq_true rfl⟩) hS (fun r1 I1 F1 H locs hP hp1 hS => ?_)
  have hw := hw r1 I1 F1 hp1
  refine lv_if_ne (tgt := 17) hx hb dCJ_method_6 (by decide) (fun h2 => ?_) (fun h2 => ?_)
  · have hw := hw.1 h2
    refine lv_iload_n hx hb dCJ_method_17 rfl (lv_at hl 2 rfl) ?_
    refine lv_iconst (v := 5) hx hb dCJ_method_18 (by decide) ?_
    obtain ⟨P3, hc3, hw⟩ := hw
    refine cc_i (va_runS (As := [.int p2, .int 5]) (rest := []) ⟨hx, hb, hml, hown, hts⟩ (c_CJ_isBelow l D a cI cZ cQ hJ I1 F1 p2 5 H.size P3 hc3) (va_cwS 2 hts (tb_S wc_CJ_isBelow tw_2_6 tw_2_7 tw_1_1) rfl rfl rfl (by decide +kernel) ⟨Nat.le_of_ble_eq_true rfl, Nat.le_of_ble_eq_true rfl⟩) ⟨cP_bl, cP_at hP hK hN⟩ rfl rfl hl.1 rfl (lv_room (Nat.le_of_ble_eq_true rfl)) dCJ_method_19 ⟨Nat.le_of_ble_eq_true rfl, Nat.le_of_ble_eq_true rfl⟩) hS (fun r3 I3 F3 H locs hP hp3 hS => ?_)
    have hw := hw r3 I3 F3 hp3
    refine lv_if_eq (tgt := 63) hx hb dCJ_method_22 (by decide) (fun h4 => ?_) (fun h4 => ?_)
    · have hw := hw.1 h4
      exact xt_throw (k := 2) (ik := 37) (ic := 39) (own := "CodeJudge") (cls := "java/lang/IllegalArgumentException") (names := ["java/lang/RuntimeException", "java/lang/Exception"]) (A := xA 47 a s.heap.size) hx hb hlt hown rfl (by decide +kernel) (by decide +kernel) (hts _ tw_2_72) (hts _ tw_1_14) (xw_hat (by decide) xw_2 hts hX) (xw_off xw_2) hZ hS (hl.1.trans hml.symm) dCJ_method_63 dCJ_method_66 dCJ_method_67 dCJ_method_70 (covers_of_empty (B.noHandlers hcd) _) hlocks (Nat.le_of_ble_eq_true rfl) (Nat.le_of_ble_eq_true rfl) (Nat.le_of_ble_eq_true rfl) (Nat.le_of_ble_eq_true rfl) (fun t h1 h2 => xt_px hP hS hw t h1 h2) hS.2.2 (Nat.le_of_ble_eq_true rfl) (Nat.le_of_ble_eq_true rfl)
    · have hw := hw.2 h4
      refine lv_iload_n hx hb dCJ_method_25 rfl (lv_at hl 3 rfl) ?_
      refine lv_iload_n hx hb dCJ_method_26 rfl (lv_at hl 2 rfl) ?_
      refine lv_ishr hx hb dCJ_method_27 ?_
      refine lv_if_ne (tgt := 63) hx hb dCJ_method_28 (by decide) (fun h5 => ?_) (fun h5 => ?_)
      · have hw := hw.1 h5
        exact xt_throw (k := 2) (ik := 37) (ic := 39) (own := "CodeJudge") (cls := "java/lang/IllegalArgumentException") (names := ["java/lang/RuntimeException", "java/lang/Exception"]) (A := xA 47 a s.heap.size) hx hb hlt hown rfl (by decide +kernel) (by decide +kernel) (hts _ tw_2_72) (hts _ tw_1_14) (xw_hat (by decide) xw_2 hts hX) (xw_off xw_2) hZ hS (hl.1.trans hml.symm) dCJ_method_63 dCJ_method_66 dCJ_method_67 dCJ_method_70 (covers_of_empty (B.noHandlers hcd) _) hlocks (Nat.le_of_ble_eq_true rfl) (Nat.le_of_ble_eq_true rfl) (Nat.le_of_ble_eq_true rfl) (Nat.le_of_ble_eq_true rfl) (fun t h1 h2 => xt_px hP hS hw t h1 h2) hS.2.2 (Nat.le_of_ble_eq_true rfl) (Nat.le_of_ble_eq_true rfl)
      · have hw := hw.2 h5
        refine lv_iload hx hb dCJ_method_31 (lv_at hl 4 rfl) ?_
        refine lv_iconst (v := 3) hx hb dCJ_method_33 (by decide) ?_
        obtain ⟨P6, hc6, hw⟩ := hw
        refine cc_i (va_runS (As := [.int p4, .int 3]) (rest := []) ⟨hx, hb, hml, hown, hts⟩ (c_CJ_isBelow l D a cI cZ cQ hJ I3 F3 p4 3 H.size P6 hc6) (va_cwS 2 hts (tb_S wc_CJ_isBelow tw_2_6 tw_2_7 tw_1_1) rfl rfl rfl (by decide +kernel) ⟨Nat.le_of_ble_eq_true rfl, Nat.le_of_ble_eq_true rfl⟩) ⟨cP_bl, cP_at hP hK hN⟩ rfl rfl hl.1 rfl (lv_room (Nat.le_of_ble_eq_true rfl)) dCJ_method_34 ⟨Nat.le_of_ble_eq_true rfl, Nat.le_of_ble_eq_true rfl⟩) hS (fun r6 I6 F6 H locs hP hp6 hS => ?_)
        have hw := hw r6 I6 F6 hp6
        refine lv_if_eq (tgt := 63) hx hb dCJ_method_37 (by decide) (fun h7 => ?_) (fun h7 => ?_)
        · have hw := hw.1 h7
          exact xt_throw (k := 2) (ik := 37) (ic := 39) (own := "CodeJudge") (cls := "java/lang/IllegalArgumentException") (names := ["java/lang/RuntimeException", "java/lang/Exception"]) (A := xA 47 a s.heap.size) hx hb hlt hown rfl (by decide +kernel) (by decide +kernel) (hts _ tw_2_72) (hts _ tw_1_14) (xw_hat (by decide) xw_2 hts hX) (xw_off xw_2) hZ hS (hl.1.trans hml.symm) dCJ_method_63 dCJ_method_66 dCJ_method_67 dCJ_method_70 (covers_of_empty (B.noHandlers hcd) _) hlocks (Nat.le_of_ble_eq_true rfl) (Nat.le_of_ble_eq_true rfl) (Nat.le_of_ble_eq_true rfl) (Nat.le_of_ble_eq_true rfl) (fun t h1 h2 => xt_px hP hS hw t h1 h2) hS.2.2 (Nat.le_of_ble_eq_true rfl) (Nat.le_of_ble_eq_true rfl)
        · have hw := hw.2 h7
          refine lv_iload hx hb dCJ_method_40 (lv_at hl 5 rfl) ?_
          refine lv_iload_n hx hb dCJ_method_42 rfl (lv_at hl 2 rfl) ?_
          refine lv_icmp_lt (tgt := 63) hx hb dCJ_method_43 (by decide) (fun h8 => ?_) (fun h8 => ?_)
          · have hw := hw.1 h8
            exact xt_throw (k := 2) (ik := 37) (ic := 39) (own := "CodeJudge") (cls := "java/lang/IllegalArgumentException") (names := ["java/lang/RuntimeException", "java/lang/Exception"]) (A := xA 47 a s.heap.size) hx hb hlt hown rfl (by decide +kernel) (by decide +kernel) (hts _ tw_2_72) (hts _ tw_1_14) (xw_hat (by decide) xw_2 hts hX) (xw_off xw_2) hZ hS (hl.1.trans hml.symm) dCJ_method_63 dCJ_method_66 dCJ_method_67 dCJ_method_70 (covers_of_empty (B.noHandlers hcd) _) hlocks (Nat.le_of_ble_eq_true rfl) (Nat.le_of_ble_eq_true rfl) (Nat.le_of_ble_eq_true rfl) (Nat.le_of_ble_eq_true rfl) (fun t h1 h2 => xt_px hP hS hw t h1 h2) hS.2.2 (Nat.le_of_ble_eq_true rfl) (Nat.le_of_ble_eq_true rfl)
          · have hw := hw.2 h8
            refine lv_iload hx hb dCJ_method_46 (lv_at hl 5 rfl) ?_
            refine lv_bipush (v := 10) hx hb dCJ_method_48 (by decide) ?_
            refine lv_icmp_gt (tgt := 63) hx hb dCJ_method_50 (by decide) (fun h9 => ?_) (fun h9 => ?_)
            · have hw := hw.1 h9
              exact xt_throw (k := 2) (ik := 37) (ic := 39) (own := "CodeJudge") (cls := "java/lang/IllegalArgumentException") (names := ["java/lang/RuntimeException", "java/lang/Exception"]) (A := xA 47 a s.heap.size) hx hb hlt hown rfl (by decide +kernel) (by decide +kernel) (hts _ tw_2_72) (hts _ tw_1_14) (xw_hat (by decide) xw_2 hts hX) (xw_off xw_2) hZ hS (hl.1.trans hml.symm) dCJ_method_63 dCJ_method_66 dCJ_method_67 dCJ_method_70 (covers_of_empty (B.noHandlers hcd) _) hlocks (Nat.le_of_ble_eq_true rfl) (Nat.le_of_ble_eq_true rfl) (Nat.le_of_ble_eq_true rfl) (Nat.le_of_ble_eq_true rfl) (fun t h1 h2 => xt_px hP hS hw t h1 h2) hS.2.2 (Nat.le_of_ble_eq_true rfl) (Nat.le_of_ble_eq_true rfl)
            · have hw := hw.2 h9
              refine lv_iload hx hb dCJ_method_53 (lv_at hl 6 rfl) ?_
              refine lv_bipush (v := 16) hx hb dCJ_method_55 (by decide) ?_
              obtain ⟨P10, hc10, hw⟩ := hw
              refine cc_i (va_runS (As := [.int p6, .int 16]) (rest := []) ⟨hx, hb, hml, hown, hts⟩ (c_CJ_isBelow l D a cI cZ cQ hJ I6 F6 p6 16 H.size P10 hc10) (va_cwS 2 hts (tb_S wc_CJ_isBelow tw_2_6 tw_2_7 tw_1_1) rfl rfl rfl (by decide +kernel) ⟨Nat.le_of_ble_eq_true rfl, Nat.le_of_ble_eq_true rfl⟩) ⟨cP_bl, cP_at hP hK hN⟩ rfl rfl hl.1 rfl (lv_room (Nat.le_of_ble_eq_true rfl)) dCJ_method_57 ⟨Nat.le_of_ble_eq_true rfl, Nat.le_of_ble_eq_true rfl⟩) hS (fun r10 I10 F10 H locs hP hp10 hS => ?_)
              have hw := hw r10 I10 F10 hp10
              refine lv_if_ne (tgt := 71) hx hb dCJ_method_60 (by decide) (fun h11 => ?_) (fun h11 => ?_)
              · have hw := hw.1 h11
                refine lv_aload_n hx hb dCJ_method_71 rfl (lv_at hl 0 rfl) ?_
                refine va_get (D := D) (v := .ref (a 1)) (ci := 7) (C := "CodeJudge") (T := T_CJ) (N := 3) hx hb hts in_CJ hown hK hP 0 cw_0 rfl 0 (by decide) (hts (.fieldLink "CodeJudge" 11 "CodeJudge" "methods" "[LCodeJudge$Method;") tw_1_227) (fun _ h9 => h9) rfl dCJ_method_72 ?_
                refine lv_iload_n hx hb dCJ_method_75 rfl (lv_at hl 1 rfl) ?_
                obtain ⟨h12, hw⟩ := hw
                refine va_aldq hx hb hK hP 1 2 cw_1 rfl h12 dCJ_method_76 ?_
                have kh12 := vin_lt h12
                refine lv_astore (lv' := [(7, .ref (a (23 + 3 * p1.toNatClampNeg))), (0, .ref (a 0)), (1, .int p1), (2, .int p2), (3, .int p3), (4, .int p4), (5, .int p5), (6, .int p6)]) hx hb dCJ_method_77 hl (by decide) rfl (fun ls hl => ?_)
                refine lv_aload hx hb dCJ_method_79 (lv_at hl 0 rfl) ?_
                refine va_get (D := D) (v := .int (I10 (20 + 10 * p1.toNatClampNeg))) (ci := 4) (C := "CodeJudge$Method") (T := T_Me) (N := 9) hx hb hts in_Me hown hK hP (23 + 3 * p1.toNatClampNeg) (cw_M kh12) rfl 0 (by decide) (hts (.fieldLink "CodeJudge" 40 "CodeJudge$Method" "there" "Z") tw_1_35) (fun _ h9 => h9) rfl dCJ_method_81 ?_
                refine lv_topi (fun x13 e_x13 => ?_)
                have hw := hw x13 e_x13
                refine lv_istore (lv' := [(8, .int x13), (7, .ref (a (23 + 3 * p1.toNatClampNeg))), (0, .ref (a 0)), (1, .int p1), (2, .int p2), (3, .int p3), (4, .int p4), (5, .int p5), (6, .int p6)]) hx hb dCJ_method_84 hl (by decide) rfl (fun ls hl => ?_)
                refine lv_aload hx hb dCJ_method_86 (lv_at hl 1 rfl) ?_
                refine lv_iload_n hx hb dCJ_method_88 rfl (lv_at hl 4 rfl) ?_
                refine lv_iload_n hx hb dCJ_method_89 rfl (lv_at hl 5 rfl) ?_
                refine lv_iload hx hb dCJ_method_90 (lv_at hl 6 rfl) ?_
                refine lv_iload hx hb dCJ_method_92 (lv_at hl 7 rfl) ?_
                refine lv_iload hx hb dCJ_method_94 (lv_at hl 8 rfl) ?_
                obtain ⟨P14, hc14, hw⟩ := hw
                refine cc_v (va_runV (As := [.int p2, .int p3, .int p4, .int p5, .int p6]) (rest := []) ⟨hx, hb, hml, hown, hts⟩ (c_Me_begin l D a cI cZ cQ hJ I10 F10 p1.toNatClampNeg p2 p3 p4 p5 p6 kh12 H.size P14 hc14) (cwV 5 hts (tb_V (C := "CodeJudge$Method") wc_Me_begin tw_2_87 tw_2_88 tw_2_89 tw_1_2) rfl rfl rfl (by decide +kernel) ⟨Nat.le_of_ble_eq_true rfl, Nat.le_of_ble_eq_true rfl⟩) ⟨cP_bl, va_recv hK hP rfl (cw_M kh12), cP_at hP hK hN⟩ rfl rfl hl.1 rfl (lv_room (Nat.le_of_ble_eq_true rfl)) dCJ_method_96 ⟨Nat.le_of_ble_eq_true rfl, Nat.le_of_ble_eq_true rfl⟩) hS (fun I14 F14 H locs hP hp14 hS => ?_)
                have hw := hw I14 F14 hp14
                refine lv_aload_n hx hb dCJ_method_99 rfl (lv_at hl 2 rfl) ?_
                refine va_get (D := D) (v := .ref (a 3)) (ci := 7) (C := "CodeJudge") (T := T_CJ) (N := 3) hx hb hts in_CJ hown hK hP 0 cw_0 rfl 2 (by decide) (hts (.fieldLink "CodeJudge" 26 "CodeJudge" "machine" "LCodeJudge$Machine;") tw_1_229) (fun _ h9 => h9) rfl dCJ_method_100 ?_
                obtain ⟨P15, hc15, hw⟩ := hw
                refine cc_v (va_runV (As := []) (rest := []) ⟨hx, hb, hml, hown, hts⟩ (c_Ma_forget l D a cI cZ cQ hJ I14 F14 H.size P15 hc15) (cwV 0 hts (tb_V (C := "CodeJudge$Machine") wc_Ma_forget tw_2_91 tw_2_92 tw_2_93 tw_1_5) rfl rfl rfl (by decide +kernel) ⟨Nat.le_of_ble_eq_true rfl, Nat.le_of_ble_eq_true rfl⟩) ⟨cP_bl, va_recv hK hP rfl cw_3, cP_at hP hK hN⟩ rfl rfl hl.1 rfl (lv_room (Nat.le_of_ble_eq_true rfl)) dCJ_method_103 ⟨Nat.le_of_ble_eq_true rfl, Nat.le_of_ble_eq_true rfl⟩) hS (fun I15 F15 H locs hP hp15 hS => ?_)
                have hw := hw I15 F15 hp15
                refine lv_iload hx hb dCJ_method_106 (lv_at hl 0 rfl) ?_
                obtain ⟨h16, hw⟩ := hw
                refine W.widen (k := 1) (n := 6) (Nat.le_of_ble_eq_true rfl) (Nat.le_of_ble_eq_true rfl) ?_
                exact xt_ret (W.zret (v := x13) hx hb hr (bo_n h16) (fun t ht hW => ⟨⟨x13, (I15, F15), rfl, hw, by subst ht; exact hP⟩, hS.F ht⟩) hS.2.2 dCJ_method_108)
              · have hw := hw.2 h11
                exact xt_throw (k := 2) (ik := 37) (ic := 39) (own := "CodeJudge") (cls := "java/lang/IllegalArgumentException") (names := ["java/lang/RuntimeException", "java/lang/Exception"]) (A := xA 47 a s.heap.size) hx hb hlt hown rfl (by decide +kernel) (by decide +kernel) (hts _ tw_2_72) (hts _ tw_1_14) (xw_hat (by decide) xw_2 hts hX) (xw_off xw_2) hZ hS (hl.1.trans hml.symm) dCJ_method_63 dCJ_method_66 dCJ_method_67 dCJ_method_70 (covers_of_empty (B.noHandlers hcd) _) hlocks (Nat.le_of_ble_eq_true rfl) (Nat.le_of_ble_eq_true rfl) (Nat.le_of_ble_eq_true rfl) (Nat.le_of_ble_eq_true rfl) (fun t h1 h2 => xt_px hP hS hw t h1 h2) hS.2.2 (Nat.le_of_ble_eq_true rfl) (Nat.le_of_ble_eq_true rfl)
  · have hw := hw.2 h2
    exact xt_throw (k := 1) (ik := 34) (ic := 36) (own := "CodeJudge") (cls := "java/util/NoSuchElementException") (names := ["java/lang/RuntimeException", "java/lang/Exception"]) (A := xA 47 a s.heap.size) hx hb hlt hown rfl (by decide +kernel) (by decide +kernel) (hts _ tw_2_9) (hts _ tw_1_13) (xw_hat (by decide) xw_1 hts hX) (xw_off xw_1) hZ hS (hl.1.trans hml.symm) dCJ_method_9 dCJ_method_12 dCJ_method_13 dCJ_method_16 (covers_of_empty (B.noHandlers hcd) _) hlocks (Nat.le_of_ble_eq_true rfl) (Nat.le_of_ble_eq_true rfl) (Nat.le_of_ble_eq_true rfl) (Nat.le_of_ble_eq_true rfl) (fun t h1 h2 => xt_px hP hS hw t h1 h2) hS.2.2 (Nat.le_of_ble_eq_true rfl) (Nat.le_of_ble_eq_true rfl)
def wp_CJ_add (p1 : Int32) (p2 : Int32) (p3 : Int32) (I : SI) (F : SF) (Post : Int32 → SI → SF → Prop) (PX : Nat → SI → SF → Prop) : Prop := ∃ (P1 : Nat → SI → SF → Prop) (PX1 : Nat → SI → SF → Prop), wp_CJ_present p1 I F P1 PX1 ∧ (∀ k I F, PX1 k I F → PX k I F) ∧ ∀ r1 I1 F1, P1 r1 I1 F1 → (∃ P2 : Int32 → SI → SF → Prop, wp_CJ_isBelow p2 26 I1 F1 P2 ∧ ∀ r2 I2 F2, P2 r2 I2 F2 → ((¬ r2 = 0 → (((I2 (26 + 10 * r1)) < 120 → (∃ P5 : SI → SF → Prop, wp_Me_append r1 p2 p3 I2 F2 P5 ∧ ∀ I5 F5, P5 I5 F5 → (∃ P6 : SI → SF → Prop, wp_Ma_forget I5 F5 P6 ∧ ∀ I6 F6, P6 I6 F6 → (Post (I6 (26 + 10 * r1)) I6 F6)))) ∧ (¬ (I2 (26 + 10 * r1)) < 120 → (PX 3 I2 F2)))) ∧ (r2 = 0 → (PX 2 I2 F2))))
set_option maxHeartbeats 4000000 in
set_option maxRecDepth 100000 in
theorem c_CJ_add (l : Launch) (hlt : l.stackTraces = false) (D : va_G) (a : Nat → Nat) (cI cZ cQ : ClassId) (hJ : xJ 47 a) (I : SI) (F : SF) (p1 : Int32) (p2 : Int32) (p3 : Int32) (sz : Nat) (Post : Int32 → SI → SF → Prop) (PX : Nat → SI → SF → Prop) (hw : wp_CJ_add p1 p2 p3 I F Post PX) : xt_Met l y_CJ_add (Cond.code y_CJ_add b_CJ_add 5 (some .int) :: TB) { frames := 7, cells := 2, slots := 12, locals := 117 } (va_Pc [.ref (a 0), .int p1, .int p2, .int p3] (cY D a cI cZ cQ I F sz)) (va_Qi (fun r (u : SI × SF) => Post r u.1 u.2) (fun u t => va_P D vwCl (cw a cI cZ cQ u.1 u.2) t.heap) (xA 47 a sz)) (cXC D a cI cZ cQ PX sz) 2 12 (xA 47 a sz) := by
  refine xt_ofW (cc := b_CJ_add) (maxL := 5) (ret := (some .int)) (by decide) rfl ?_
  intro p e s m args below meth c s₁ B hml hv
  obtain ⟨rfl, ⟨⟨rfl, hP, hK, hN⟩, hZ⟩, hX⟩ := hv
  have hx := B.exec
  have hb := B.bytes
  have hr := B.returns
  have hcd := atoms_spec (ws := Cond.code y_CJ_add b_CJ_add 5 (some .int) :: TB) B.pre _ List.mem_cons_self
  have hts : ∀ w ∈ TB, w.before _ s = true := fun w h => atoms_spec (ws := Cond.code y_CJ_add b_CJ_add 5 (some .int) :: TB) B.pre w (List.mem_cons_of_mem _ h)
  have hown : s.vm.findClass "CodeJudge" = some m.cls := findClass_of_methodNamed B.named
  have hlocks := B.notSynchronized
  have hl := lv_entry ([.ref (a 0), .int p1, .int p2, .int p3]) (n := 5) (Nat.le_of_ble_eq_true rfl)
  rw [lg_entry_eq]
  generalize (lg_sl ([.ref (a 0), .int p1, .int p2, .int p3]) ++ List.replicate (5 - (lg_sl ([.ref (a 0), .int p1, .int p2, .int p3])).length) Slot.unset).toArray = ls at hl ⊢
  have hl : lv_has ls 5 [(0, .ref (a 0)), (1, .int p1), (2, .int p2), (3, .int p3)] := hl
  suffices hM : ∀ (H : Heap) (locs : List Loc), va_P D vwCl (cw a cI cZ cQ I F) H → va_S (xA 47 a s.heap.size) s.heap H locs → W p l e (headSpec (Cond.code y_CJ_add b_CJ_add 5 (some .int) :: TB) { frames := 7, cells := 2, slots := 12, locals := 117 }).room s m ([.ref (a 0), .int p1, .int p2, .int p3]).toArray below meth c H locs 0 0 (xt_MQ below (va_Qi (fun r (u : SI × SF) => Post r u.1 u.2) (fun u t => va_P D vwCl (cw a cI cZ cQ u.1 u.2) t.heap) (xA 47 a s.heap.size)) (cXC D a cI cZ cQ PX s.heap.size) ([.ref (a 0), .int p1, .int p2, .int p3]).toArray s 2 12 (xA 47 a s.heap.size)) (F0 m 0 ls []) from hM s.heap [] hP va_S.rf
  clear hP
  intro H locs hP hS
  dsimp only [wp_CJ_add] at hw
  refine lv_aload_n hx hb dCJ_add_0 rfl (lv_at hl 0 rfl) ?_
  refine lv_iload_n hx hb dCJ_add_1 rfl (lv_at hl 1 rfl) ?_
  obtain ⟨P1, PX1, hc1, hx1, hw⟩ := hw
  refine cx_r (xt_runV (As := [.int p1]) (rest := []) ⟨hx, hb, hml, hown, hts⟩ (c_CJ_present l hlt D a cI cZ cQ hJ I F p1 H.size P1 PX1 hc1) (cwV 1 hts (tb_V (C := "CodeJudge") wc_CJ_present tw_2_103 tw_2_105 tw_0_1 tw_1_1) rfl rfl rfl (by decide +kernel) ⟨Nat.le_of_ble_eq_true rfl, Nat.le_of_ble_eq_true rfl⟩) ⟨cY_bl, va_recv hK hP rfl cw_0, cY_at hP hK hN hZ hX hS⟩ rfl rfl hl.1 rfl (lv_room (Nat.le_of_ble_eq_true rfl)) dCJ_add_2 ⟨Nat.le_of_ble_eq_true rfl, Nat.le_of_ble_eq_true rfl⟩) hS (fun k1 q1 I1 F1 H locs hP hp1 hS hO => xt_out (covers_of_empty (B.noHandlers hcd) _) hlocks hO (fun t ht => ⟨(I1, F1), hx1 k1 I1 F1 hp1, by subst ht; exact hP, hS.F ht⟩) hS.2.2 (Nat.le_of_ble_eq_true rfl) (Nat.le_of_ble_eq_true rfl)) (fun r1 I1 F1 H locs hr1 hP hp1 hS => ?_)
  have hw := hw r1 I1 F1 hp1
  refine lv_astore (lv' := [(4, .ref (a (23 + 3 * r1))), (0, .ref (a 0)), (1, .int p1), (2, .int p2), (3, .int p3)]) hx hb dCJ_add_5 hl (by decide) rfl (fun ls hl => ?_)
  refine lv_iload_n hx hb dCJ_add_7 rfl (lv_at hl 3 rfl) ?_
  refine lv_bipush (v := 26) hx hb dCJ_add_8 (by decide) ?_
  obtain ⟨P2, hc2, hw⟩ := hw
  refine cc_i (va_runS (As := [.int p2, .int 26]) (rest := []) ⟨hx, hb, hml, hown, hts⟩ (c_CJ_isBelow l D a cI cZ cQ hJ I1 F1 p2 26 H.size P2 hc2) (va_cwS 2 hts (tb_S wc_CJ_isBelow tw_2_6 tw_2_7 tw_1_1) rfl rfl rfl (by decide +kernel) ⟨Nat.le_of_ble_eq_true rfl, Nat.le_of_ble_eq_true rfl⟩) ⟨cP_bl, cP_at hP hK hN⟩ rfl rfl hl.1 rfl (lv_room (Nat.le_of_ble_eq_true rfl)) dCJ_add_10 ⟨Nat.le_of_ble_eq_true rfl, Nat.le_of_ble_eq_true rfl⟩) hS (fun r2 I2 F2 H locs hP hp2 hS => ?_)
  have hw := hw r2 I2 F2 hp2
  refine lv_if_ne (tgt := 24) hx hb dCJ_add_13 (by decide) (fun h3 => ?_) (fun h3 => ?_)
  · have hw := hw.1 h3
    refine lv_aload hx hb dCJ_add_24 (lv_at hl 0 rfl) ?_
    refine va_get (D := D) (v := .int (I2 (26 + 10 * r1))) (ci := 4) (C := "CodeJudge$Method") (T := T_Me) (N := 9) hx hb hts in_Me hown hK hP (23 + 3 * r1) (cw_M hr1) rfl 6 (by decide) (hts (.fieldLink "CodeJudge" 57 "CodeJudge$Method" "size" "I") tw_1_51) (fun _ h9 => h9) rfl dCJ_add_26 ?_
    refine lv_bipush (v := 120) hx hb dCJ_add_29 (by decide) ?_
    refine lv_icmp_lt (tgt := 42) hx hb dCJ_add_31 (by decide) (fun h4 => ?_) (fun h4 => ?_)
    · have hw := hw.1 h4
      refine lv_aload hx hb dCJ_add_42 (lv_at hl 0 rfl) ?_
      refine lv_iload_n hx hb dCJ_add_44 rfl (lv_at hl 3 rfl) ?_
      refine lv_iload_n hx hb dCJ_add_45 rfl (lv_at hl 4 rfl) ?_
      obtain ⟨P5, hc5, hw⟩ := hw
      refine cc_v (va_runV (As := [.int p2, .int p3]) (rest := []) ⟨hx, hb, hml, hown, hts⟩ (c_Me_append l D a cI cZ cQ hJ I2 F2 r1 p2 p3 hr1 H.size P5 hc5) (cwV 2 hts (tb_V (C := "CodeJudge$Method") wc_Me_append tw_2_122 tw_2_123 tw_2_124 tw_1_2) rfl rfl rfl (by decide +kernel) ⟨Nat.le_of_ble_eq_true rfl, Nat.le_of_ble_eq_true rfl⟩) ⟨cP_bl, va_recv hK hP rfl (cw_M hr1), cP_at hP hK hN⟩ rfl rfl hl.1 rfl (lv_room (Nat.le_of_ble_eq_true rfl)) dCJ_add_46 ⟨Nat.le_of_ble_eq_true rfl, Nat.le_of_ble_eq_true rfl⟩) hS (fun I5 F5 H locs hP hp5 hS => ?_)
      have hw := hw I5 F5 hp5
      refine lv_aload_n hx hb dCJ_add_49 rfl (lv_at hl 1 rfl) ?_
      refine va_get (D := D) (v := .ref (a 3)) (ci := 7) (C := "CodeJudge") (T := T_CJ) (N := 3) hx hb hts in_CJ hown hK hP 0 cw_0 rfl 2 (by decide) (hts (.fieldLink "CodeJudge" 26 "CodeJudge" "machine" "LCodeJudge$Machine;") tw_1_229) (fun _ h9 => h9) rfl dCJ_add_50 ?_
      obtain ⟨P6, hc6, hw⟩ := hw
      refine cc_v (va_runV (As := []) (rest := []) ⟨hx, hb, hml, hown, hts⟩ (c_Ma_forget l D a cI cZ cQ hJ I5 F5 H.size P6 hc6) (cwV 0 hts (tb_V (C := "CodeJudge$Machine") wc_Ma_forget tw_2_91 tw_2_92 tw_2_93 tw_1_5) rfl rfl rfl (by decide +kernel) ⟨Nat.le_of_ble_eq_true rfl, Nat.le_of_ble_eq_true rfl⟩) ⟨cP_bl, va_recv hK hP rfl cw_3, cP_at hP hK hN⟩ rfl rfl hl.1 rfl (lv_room (Nat.le_of_ble_eq_true rfl)) dCJ_add_53 ⟨Nat.le_of_ble_eq_true rfl, Nat.le_of_ble_eq_true rfl⟩) hS (fun I6 F6 H locs hP hp6 hS => ?_)
      have hw := hw I6 F6 hp6
      refine lv_aload hx hb dCJ_add_56 (lv_at hl 0 rfl) ?_
      refine va_get (D := D) (v := .int (I6 (26 + 10 * r1))) (ci := 4) (C := "CodeJudge$Method") (T := T_Me) (N := 9) hx hb hts in_Me hown hK hP (23 + 3 * r1) (cw_M hr1) rfl 6 (by decide) (hts (.fieldLink "CodeJudge" 57 "CodeJudge$Method" "size" "I") tw_1_51) (fun _ h9 => h9) rfl dCJ_add_58 ?_
      refine W.widen (k := 2) (n := 12) (Nat.le_of_ble_eq_true rfl) (Nat.le_of_ble_eq_true rfl) ?_
      exact xt_ret (W.iret (v := (I6 (26 + 10 * r1))) hx hb hr (fun t ht hW => ⟨⟨(I6 (26 + 10 * r1)), (I6, F6), rfl, hw, by subst ht; exact hP⟩, hS.F ht⟩) hS.2.2 dCJ_add_61)
    · have hw := hw.2 h4
      exact xt_throw (k := 3) (ik := 61) (ic := 63) (own := "CodeJudge") (cls := "java/lang/IllegalStateException") (names := ["java/lang/RuntimeException", "java/lang/Exception"]) (A := xA 47 a s.heap.size) hx hb hlt hown rfl (by decide +kernel) (by decide +kernel) (hts _ tw_2_107) (hts _ tw_1_15) (xw_hat (by decide) xw_3 hts hX) (xw_off xw_3) hZ hS (hl.1.trans hml.symm) dCJ_add_34 dCJ_add_37 dCJ_add_38 dCJ_add_41 (covers_of_empty (B.noHandlers hcd) _) hlocks (Nat.le_of_ble_eq_true rfl) (Nat.le_of_ble_eq_true rfl) (Nat.le_of_ble_eq_true rfl) (Nat.le_of_ble_eq_true rfl) (fun t h1 h2 => xt_px hP hS hw t h1 h2) hS.2.2 (Nat.le_of_ble_eq_true rfl) (Nat.le_of_ble_eq_true rfl)
  · have hw := hw.2 h3
    exact xt_throw (k := 2) (ik := 37) (ic := 39) (own := "CodeJudge") (cls := "java/lang/IllegalArgumentException") (names := ["java/lang/RuntimeException", "java/lang/Exception"]) (A := xA 47 a s.heap.size) hx hb hlt hown rfl (by decide +kernel) (by decide +kernel) (hts _ tw_2_72) (hts _ tw_1_14) (xw_hat (by decide) xw_2 hts hX) (xw_off xw_2) hZ hS (hl.1.trans hml.symm) dCJ_add_16 dCJ_add_19 dCJ_add_20 dCJ_add_23 (covers_of_empty (B.noHandlers hcd) _) hlocks (Nat.le_of_ble_eq_true rfl) (Nat.le_of_ble_eq_true rfl) (Nat.le_of_ble_eq_true rfl) (Nat.le_of_ble_eq_true rfl) (fun t h1 h2 => xt_px hP hS hw t h1 h2) hS.2.2 (Nat.le_of_ble_eq_true rfl) (Nat.le_of_ble_eq_true rfl)
def wp_CJ_patch (p1 : Int32) (p2 : Int32) (p3 : Int32) (I : SI) (F : SF) (Post : Int32 → SI → SF → Prop) (PX : Nat → SI → SF → Prop) : Prop := ∃ (P1 : Nat → SI → SF → Prop) (PX1 : Nat → SI → SF → Prop), wp_CJ_presentWith p1 p2 I F P1 PX1 ∧ (∀ k I F, PX1 k I F → PX k I F) ∧ ∀ r1 I1 F1, P1 r1 I1 F1 → (∃ P2 : Int32 → SI → SF → Prop, wp_Me_numberAt r1 p2 I1 F1 P2 ∧ ∀ r2 I2 F2, P2 r2 I2 F2 → (∃ P3 : SI → SF → Prop, wp_Me_renumber r1 p2 p3 I2 F2 P3 ∧ ∀ I3 F3, P3 I3 F3 → (∃ P4 : SI → SF → Prop, wp_Ma_forget I3 F3 P4 ∧ ∀ I4 F4, P4 I4 F4 → (Post r2 I4 F4))))
set_option maxHeartbeats 4000000 in
set_option maxRecDepth 100000 in
theorem c_CJ_patch (l : Launch) (hlt : l.stackTraces = false) (D : va_G) (a : Nat → Nat) (cI cZ cQ : ClassId) (hJ : xJ 47 a) (I : SI) (F : SF) (p1 : Int32) (p2 : Int32) (p3 : Int32) (sz : Nat) (Post : Int32 → SI → SF → Prop) (PX : Nat → SI → SF → Prop) (hw : wp_CJ_patch p1 p2 p3 I F Post PX) : xt_Met l y_CJ_patch (Cond.code y_CJ_patch b_CJ_patch 6 (some .int) :: TB) { frames := 8, cells := 2, slots := 12, locals := 140 } (va_Pc [.ref (a 0), .int p1, .int p2, .int p3] (cY D a cI cZ cQ I F sz)) (va_Qi (fun r (u : SI × SF) => Post r u.1 u.2) (fun u t => va_P D vwCl (cw a cI cZ cQ u.1 u.2) t.heap) (xA 47 a sz)) (cXC D a cI cZ cQ PX sz) 2 12 (xA 47 a sz) := by
  refine xt_ofW (cc := b_CJ_patch) (maxL := 6) (ret := (some .int)) (by decide) rfl ?_
  intro p e s m args below meth c s₁ B hml hv
  obtain ⟨rfl, ⟨⟨rfl, hP, hK, hN⟩, hZ⟩, hX⟩ := hv
  have hx := B.exec
  have hb := B.bytes
  have hr := B.returns
  have hcd := atoms_spec (ws := Cond.code y_CJ_patch b_CJ_patch 6 (some .int) :: TB) B.pre _ List.mem_cons_self
  have hts : ∀ w ∈ TB, w.before _ s = true := fun w h => atoms_spec (ws := Cond.code y_CJ_patch b_CJ_patch 6 (some .int) :: TB) B.pre w (List.mem_cons_of_mem _ h)
  have hown : s.vm.findClass "CodeJudge" = some m.cls := findClass_of_methodNamed B.named
  have hlocks := B.notSynchronized
  have hl := lv_entry ([.ref (a 0), .int p1, .int p2, .int p3]) (n := 6) (Nat.le_of_ble_eq_true rfl)
  rw [lg_entry_eq]
  generalize (lg_sl ([.ref (a 0), .int p1, .int p2, .int p3]) ++ List.replicate (6 - (lg_sl ([.ref (a 0), .int p1, .int p2, .int p3])).length) Slot.unset).toArray = ls at hl ⊢
  have hl : lv_has ls 6 [(0, .ref (a 0)), (1, .int p1), (2, .int p2), (3, .int p3)] := hl
  suffices hM : ∀ (H : Heap) (locs : List Loc), va_P D vwCl (cw a cI cZ cQ I F) H → va_S (xA 47 a s.heap.size) s.heap H locs → W p l e (headSpec (Cond.code y_CJ_patch b_CJ_patch 6 (some .int) :: TB) { frames := 8, cells := 2, slots := 12, locals := 140 }).room s m ([.ref (a 0), .int p1, .int p2, .int p3]).toArray below meth c H locs 0 0 (xt_MQ below (va_Qi (fun r (u : SI × SF) => Post r u.1 u.2) (fun u t => va_P D vwCl (cw a cI cZ cQ u.1 u.2) t.heap) (xA 47 a s.heap.size)) (cXC D a cI cZ cQ PX s.heap.size) ([.ref (a 0), .int p1, .int p2, .int p3]).toArray s 2 12 (xA 47 a s.heap.size)) (F0 m 0 ls []) from hM s.heap [] hP va_S.rf
  clear hP
  intro H locs hP hS
  dsimp only [wp_CJ_patch] at hw
  refine lv_aload_n hx hb dCJ_patch_0 rfl (lv_at hl 0 rfl) ?_
  refine lv_iload_n hx hb dCJ_patch_1 rfl (lv_at hl 1 rfl) ?_
  refine lv_iload_n hx hb dCJ_patch_2 rfl (lv_at hl 2 rfl) ?_
  obtain ⟨P1, PX1, hc1, hx1, hw⟩ := hw
  refine cx_r (xt_runV (As := [.int p1, .int p2]) (rest := []) ⟨hx, hb, hml, hown, hts⟩ (c_CJ_presentWith l hlt D a cI cZ cQ hJ I F p1 p2 H.size P1 PX1 hc1) (cwV 2 hts (tb_V (C := "CodeJudge") wc_CJ_presentWith tw_2_133 tw_2_135 tw_0_2 tw_1_1) rfl rfl rfl (by decide +kernel) ⟨Nat.le_of_ble_eq_true rfl, Nat.le_of_ble_eq_true rfl⟩) ⟨cY_bl, va_recv hK hP rfl cw_0, cY_at hP hK hN hZ hX hS⟩ rfl rfl hl.1 rfl (lv_room (Nat.le_of_ble_eq_true rfl)) dCJ_patch_3 ⟨Nat.le_of_ble_eq_true rfl, Nat.le_of_ble_eq_true rfl⟩) hS (fun k1 q1 I1 F1 H locs hP hp1 hS hO => xt_out (covers_of_empty (B.noHandlers hcd) _) hlocks hO (fun t ht => ⟨(I1, F1), hx1 k1 I1 F1 hp1, by subst ht; exact hP, hS.F ht⟩) hS.2.2 (Nat.le_of_ble_eq_true rfl) (Nat.le_of_ble_eq_true rfl)) (fun r1 I1 F1 H locs hr1 hP hp1 hS => ?_)
  have hw := hw r1 I1 F1 hp1
  refine lv_astore (lv' := [(4, .ref (a (23 + 3 * r1))), (0, .ref (a 0)), (1, .int p1), (2, .int p2), (3, .int p3)]) hx hb dCJ_patch_6 hl (by decide) rfl (fun ls hl => ?_)
  refine lv_aload hx hb dCJ_patch_8 (lv_at hl 0 rfl) ?_
  refine lv_iload_n hx hb dCJ_patch_10 rfl (lv_at hl 3 rfl) ?_
  obtain ⟨P2, hc2, hw⟩ := hw
  refine cc_i (va_runV (As := [.int p2]) (rest := []) ⟨hx, hb, hml, hown, hts⟩ (c_Me_numberAt l D a cI cZ cQ hJ I1 F1 r1 p2 hr1 H.size P2 hc2) (cwV 1 hts (tb_V (C := "CodeJudge$Method") wc_Me_numberAt tw_2_142 tw_2_143 tw_2_144 tw_1_2) rfl rfl rfl (by decide +kernel) ⟨Nat.le_of_ble_eq_true rfl, Nat.le_of_ble_eq_true rfl⟩) ⟨cP_bl, va_recv hK hP rfl (cw_M hr1), cP_at hP hK hN⟩ rfl rfl hl.1 rfl (lv_room (Nat.le_of_ble_eq_true rfl)) dCJ_patch_11 ⟨Nat.le_of_ble_eq_true rfl, Nat.le_of_ble_eq_true rfl⟩) hS (fun r2 I2 F2 H locs hP hp2 hS => ?_)
  have hw := hw r2 I2 F2 hp2
  refine lv_istore (lv' := [(5, .int r2), (4, .ref (a (23 + 3 * r1))), (0, .ref (a 0)), (1, .int p1), (2, .int p2), (3, .int p3)]) hx hb dCJ_patch_14 hl (by decide) rfl (fun ls hl => ?_)
  refine lv_aload hx hb dCJ_patch_16 (lv_at hl 1 rfl) ?_
  refine lv_iload_n hx hb dCJ_patch_18 rfl (lv_at hl 4 rfl) ?_
  refine lv_iload_n hx hb dCJ_patch_19 rfl (lv_at hl 5 rfl) ?_
  obtain ⟨P3, hc3, hw⟩ := hw
  refine cc_v (va_runV (As := [.int p2, .int p3]) (rest := []) ⟨hx, hb, hml, hown, hts⟩ (c_Me_renumber l D a cI cZ cQ hJ I2 F2 r1 p2 p3 hr1 H.size P3 hc3) (cwV 2 hts (tb_V (C := "CodeJudge$Method") wc_Me_renumber tw_2_147 tw_2_148 tw_2_149 tw_1_2) rfl rfl rfl (by decide +kernel) ⟨Nat.le_of_ble_eq_true rfl, Nat.le_of_ble_eq_true rfl⟩) ⟨cP_bl, va_recv hK hP rfl (cw_M hr1), cP_at hP hK hN⟩ rfl rfl hl.1 rfl (lv_room (Nat.le_of_ble_eq_true rfl)) dCJ_patch_20 ⟨Nat.le_of_ble_eq_true rfl, Nat.le_of_ble_eq_true rfl⟩) hS (fun I3 F3 H locs hP hp3 hS => ?_)
  have hw := hw I3 F3 hp3
  refine lv_aload_n hx hb dCJ_patch_23 rfl (lv_at hl 2 rfl) ?_
  refine va_get (D := D) (v := .ref (a 3)) (ci := 7) (C := "CodeJudge") (T := T_CJ) (N := 3) hx hb hts in_CJ hown hK hP 0 cw_0 rfl 2 (by decide) (hts (.fieldLink "CodeJudge" 26 "CodeJudge" "machine" "LCodeJudge$Machine;") tw_1_229) (fun _ h9 => h9) rfl dCJ_patch_24 ?_
  obtain ⟨P4, hc4, hw⟩ := hw
  refine cc_v (va_runV (As := []) (rest := []) ⟨hx, hb, hml, hown, hts⟩ (c_Ma_forget l D a cI cZ cQ hJ I3 F3 H.size P4 hc4) (cwV 0 hts (tb_V (C := "CodeJudge$Machine") wc_Ma_forget tw_2_91 tw_2_92 tw_2_93 tw_1_5) rfl rfl rfl (by decide +kernel) ⟨Nat.le_of_ble_eq_true rfl, Nat.le_of_ble_eq_true rfl⟩) ⟨cP_bl, va_recv hK hP rfl cw_3, cP_at hP hK hN⟩ rfl rfl hl.1 rfl (lv_room (Nat.le_of_ble_eq_true rfl)) dCJ_patch_27 ⟨Nat.le_of_ble_eq_true rfl, Nat.le_of_ble_eq_true rfl⟩) hS (fun I4 F4 H locs hP hp4 hS => ?_)
  have hw := hw I4 F4 hp4
  refine lv_iload hx hb dCJ_patch_30 (lv_at hl 0 rfl) ?_
  refine W.widen (k := 2) (n := 12) (Nat.le_of_ble_eq_true rfl) (Nat.le_of_ble_eq_true rfl) ?_
  exact xt_ret (W.iret (v := r2) hx hb hr (fun t ht hW => ⟨⟨r2, (I4, F4), rfl, hw, by subst ht; exact hP⟩, hS.F ht⟩) hS.2.2 dCJ_patch_32)
def wp_CJ_drop (p1 : Int32) (I : SI) (F : SF) (Post : Int32 → SI → SF → Prop) (PX : Nat → SI → SF → Prop) : Prop := ∃ (P1 : Nat → SI → SF → Prop) (PX1 : Nat → SI → SF → Prop), wp_CJ_present p1 I F P1 PX1 ∧ (∀ k I F, PX1 k I F → PX k I F) ∧ ∀ r1 I1 F1, P1 r1 I1 F1 → (∀ x2 : Int32, x2 = (I1 (26 + 10 * r1)) → (∃ P3 : SI → SF → Prop, wp_Me_vanish r1 I1 F1 P3 ∧ ∀ I3 F3, P3 I3 F3 → (∃ P4 : SI → SF → Prop, wp_Ma_forget I3 F3 P4 ∧ ∀ I4 F4, P4 I4 F4 → (Post x2 I4 F4))))
set_option maxHeartbeats 4000000 in
set_option maxRecDepth 100000 in
theorem c_CJ_drop (l : Launch) (hlt : l.stackTraces = false) (D : va_G) (a : Nat → Nat) (cI cZ cQ : ClassId) (hJ : xJ 47 a) (I : SI) (F : SF) (p1 : Int32) (sz : Nat) (Post : Int32 → SI → SF → Prop) (PX : Nat → SI → SF → Prop) (hw : wp_CJ_drop p1 I F Post PX) : xt_Met l y_CJ_drop (Cond.code y_CJ_drop b_CJ_drop 4 (some .int) :: TB) { frames := 7, cells := 1, slots := 6, locals := 117 } (va_Pc [.ref (a 0), .int p1] (cY D a cI cZ cQ I F sz)) (va_Qi (fun r (u : SI × SF) => Post r u.1 u.2) (fun u t => va_P D vwCl (cw a cI cZ cQ u.1 u.2) t.heap) (xA 47 a sz)) (cXC D a cI cZ cQ PX sz) 1 6 (xA 47 a sz) := by
  refine xt_ofW (cc := b_CJ_drop) (maxL := 4) (ret := (some .int)) (by decide) rfl ?_
  intro p e s m args below meth c s₁ B hml hv
  obtain ⟨rfl, ⟨⟨rfl, hP, hK, hN⟩, hZ⟩, hX⟩ := hv
  have hx := B.exec
  have hb := B.bytes
  have hr := B.returns
  have hcd := atoms_spec (ws := Cond.code y_CJ_drop b_CJ_drop 4 (some .int) :: TB) B.pre _ List.mem_cons_self
  have hts : ∀ w ∈ TB, w.before _ s = true := fun w h => atoms_spec (ws := Cond.code y_CJ_drop b_CJ_drop 4 (some .int) :: TB) B.pre w (List.mem_cons_of_mem _ h)
  have hown : s.vm.findClass "CodeJudge" = some m.cls := findClass_of_methodNamed B.named
  have hlocks := B.notSynchronized
  have hl := lv_entry ([.ref (a 0), .int p1]) (n := 4) (Nat.le_of_ble_eq_true rfl)
  rw [lg_entry_eq]
  generalize (lg_sl ([.ref (a 0), .int p1]) ++ List.replicate (4 - (lg_sl ([.ref (a 0), .int p1])).length) Slot.unset).toArray = ls at hl ⊢
  have hl : lv_has ls 4 [(0, .ref (a 0)), (1, .int p1)] := hl
  suffices hM : ∀ (H : Heap) (locs : List Loc), va_P D vwCl (cw a cI cZ cQ I F) H → va_S (xA 47 a s.heap.size) s.heap H locs → W p l e (headSpec (Cond.code y_CJ_drop b_CJ_drop 4 (some .int) :: TB) { frames := 7, cells := 1, slots := 6, locals := 117 }).room s m ([.ref (a 0), .int p1]).toArray below meth c H locs 0 0 (xt_MQ below (va_Qi (fun r (u : SI × SF) => Post r u.1 u.2) (fun u t => va_P D vwCl (cw a cI cZ cQ u.1 u.2) t.heap) (xA 47 a s.heap.size)) (cXC D a cI cZ cQ PX s.heap.size) ([.ref (a 0), .int p1]).toArray s 1 6 (xA 47 a s.heap.size)) (F0 m 0 ls []) from hM s.heap [] hP va_S.rf
  clear hP
  intro H locs hP hS
  dsimp only [wp_CJ_drop] at hw
  refine lv_aload_n hx hb dCJ_drop_0 rfl (lv_at hl 0 rfl) ?_
  refine lv_iload_n hx hb dCJ_drop_1 rfl (lv_at hl 1 rfl) ?_
  obtain ⟨P1, PX1, hc1, hx1, hw⟩ := hw
  refine cx_r (xt_runV (As := [.int p1]) (rest := []) ⟨hx, hb, hml, hown, hts⟩ (c_CJ_present l hlt D a cI cZ cQ hJ I F p1 H.size P1 PX1 hc1) (cwV 1 hts (tb_V (C := "CodeJudge") wc_CJ_present tw_2_103 tw_2_105 tw_0_1 tw_1_1) rfl rfl rfl (by decide +kernel) ⟨Nat.le_of_ble_eq_true rfl, Nat.le_of_ble_eq_true rfl⟩) ⟨cY_bl, va_recv hK hP rfl cw_0, cY_at hP hK hN hZ hX hS⟩ rfl rfl hl.1 rfl (lv_room (Nat.le_of_ble_eq_true rfl)) dCJ_drop_2 ⟨Nat.le_of_ble_eq_true rfl, Nat.le_of_ble_eq_true rfl⟩) hS (fun k1 q1 I1 F1 H locs hP hp1 hS hO => xt_out (covers_of_empty (B.noHandlers hcd) _) hlocks hO (fun t ht => ⟨(I1, F1), hx1 k1 I1 F1 hp1, by subst ht; exact hP, hS.F ht⟩) hS.2.2 (Nat.le_of_ble_eq_true rfl) (Nat.le_of_ble_eq_true rfl)) (fun r1 I1 F1 H locs hr1 hP hp1 hS => ?_)
  have hw := hw r1 I1 F1 hp1
  refine lv_astore_n (lv' := [(2, .ref (a (23 + 3 * r1))), (0, .ref (a 0)), (1, .int p1)]) hx hb dCJ_drop_5 rfl hl (by decide) rfl (fun ls hl => ?_)
  refine lv_aload_n hx hb dCJ_drop_6 rfl (lv_at hl 0 rfl) ?_
  refine va_get (D := D) (v := .int (I1 (26 + 10 * r1))) (ci := 4) (C := "CodeJudge$Method") (T := T_Me) (N := 9) hx hb hts in_Me hown hK hP (23 + 3 * r1) (cw_M hr1) rfl 6 (by decide) (hts (.fieldLink "CodeJudge" 57 "CodeJudge$Method" "size" "I") tw_1_51) (fun _ h9 => h9) rfl dCJ_drop_7 ?_
  refine lv_topi (fun x2 e_x2 => ?_)
  have hw := hw x2 e_x2
  refine lv_istore_n (lv' := [(3, .int x2), (2, .ref (a (23 + 3 * r1))), (0, .ref (a 0)), (1, .int p1)]) hx hb dCJ_drop_10 rfl hl (by decide) rfl (fun ls hl => ?_)
  refine lv_aload_n hx hb dCJ_drop_11 rfl (lv_at hl 1 rfl) ?_
  obtain ⟨P3, hc3, hw⟩ := hw
  refine cc_v (va_runV (As := []) (rest := []) ⟨hx, hb, hml, hown, hts⟩ (c_Me_vanish l D a cI cZ cQ hJ I1 F1 r1 hr1 H.size P3 hc3) (cwV 0 hts (tb_V (C := "CodeJudge$Method") wc_Me_vanish tw_2_158 tw_2_159 tw_2_160 tw_1_2) rfl rfl rfl (by decide +kernel) ⟨Nat.le_of_ble_eq_true rfl, Nat.le_of_ble_eq_true rfl⟩) ⟨cP_bl, va_recv hK hP rfl (cw_M hr1), cP_at hP hK hN⟩ rfl rfl hl.1 rfl (lv_room (Nat.le_of_ble_eq_true rfl)) dCJ_drop_12 ⟨Nat.le_of_ble_eq_true rfl, Nat.le_of_ble_eq_true rfl⟩) hS (fun I3 F3 H locs hP hp3 hS => ?_)
  have hw := hw I3 F3 hp3
  refine lv_aload_n hx hb dCJ_drop_15 rfl (lv_at hl 2 rfl) ?_
  refine va_get (D := D) (v := .ref (a 3)) (ci := 7) (C := "CodeJudge") (T := T_CJ) (N := 3) hx hb hts in_CJ hown hK hP 0 cw_0 rfl 2 (by decide) (hts (.fieldLink "CodeJudge" 26 "CodeJudge" "machine" "LCodeJudge$Machine;") tw_1_229) (fun _ h9 => h9) rfl dCJ_drop_16 ?_
  obtain ⟨P4, hc4, hw⟩ := hw
  refine cc_v (va_runV (As := []) (rest := []) ⟨hx, hb, hml, hown, hts⟩ (c_Ma_forget l D a cI cZ cQ hJ I3 F3 H.size P4 hc4) (cwV 0 hts (tb_V (C := "CodeJudge$Machine") wc_Ma_forget tw_2_91 tw_2_92 tw_2_93 tw_1_5) rfl rfl rfl (by decide +kernel) ⟨Nat.le_of_ble_eq_true rfl, Nat.le_of_ble_eq_true rfl⟩) ⟨cP_bl, va_recv hK hP rfl cw_3, cP_at hP hK hN⟩ rfl rfl hl.1 rfl (lv_room (Nat.le_of_ble_eq_true rfl)) dCJ_drop_19 ⟨Nat.le_of_ble_eq_true rfl, Nat.le_of_ble_eq_true rfl⟩) hS (fun I4 F4 H locs hP hp4 hS => ?_)
  have hw := hw I4 F4 hp4
  refine lv_iload_n hx hb dCJ_drop_22 rfl (lv_at hl 0 rfl) ?_
  refine W.widen (k := 1) (n := 6) (Nat.le_of_ble_eq_true rfl) (Nat.le_of_ble_eq_true rfl) ?_
  exact xt_ret (W.iret (v := x2) hx hb hr (fun t ht hW => ⟨⟨x2, (I4, F4), rfl, hw, by subst ht; exact hP⟩, hS.F ht⟩) hS.2.2 dCJ_drop_23)
def wp_CJ_good (p1 : Int32) (I : SI) (F : SF) (Post : Int32 → SI → SF → Prop) (PX : Nat → SI → SF → Prop) : Prop := ∃ (P1 : Nat → SI → SF → Prop) (PX1 : Nat → SI → SF → Prop), wp_CJ_present p1 I F P1 PX1 ∧ (∀ k I F, PX1 k I F → PX k I F) ∧ ∀ r1 I1 F1, P1 r1 I1 F1 → (∃ P2 : Int32 → SI → SF → Prop, wp_Ju_approves r1 I1 F1 P2 ∧ ∀ r2 I2 F2, P2 r2 I2 F2 → (bo r2 ∧ Post r2 I2 F2))
set_option maxHeartbeats 4000000 in
set_option maxRecDepth 100000 in
theorem c_CJ_good (l : Launch) (hlt : l.stackTraces = false) (D : va_G) (a : Nat → Nat) (cI cZ cQ : ClassId) (hJ : xJ 47 a) (I : SI) (F : SF) (p1 : Int32) (sz : Nat) (Post : Int32 → SI → SF → Prop) (PX : Nat → SI → SF → Prop) (hw : wp_CJ_good p1 I F Post PX) : xt_Met l y_CJ_good (Cond.code y_CJ_good b_CJ_good 2 (some .boolean) :: TB) { frames := 7, cells := 1, slots := 6, locals := 117 } (va_Pc [.ref (a 0), .int p1] (cY D a cI cZ cQ I F sz)) (va_Qi (fun r (u : SI × SF) => Post r u.1 u.2) (fun u t => va_P D vwCl (cw a cI cZ cQ u.1 u.2) t.heap) (xA 47 a sz)) (cXC D a cI cZ cQ PX sz) 1 6 (xA 47 a sz) := by
  refine xt_ofW (cc := b_CJ_good) (maxL := 2) (ret := (some .boolean)) (by decide) rfl ?_
  intro p e s m args below meth c s₁ B hml hv
  obtain ⟨rfl, ⟨⟨rfl, hP, hK, hN⟩, hZ⟩, hX⟩ := hv
  have hx := B.exec
  have hb := B.bytes
  have hr := B.returns
  have hcd := atoms_spec (ws := Cond.code y_CJ_good b_CJ_good 2 (some .boolean) :: TB) B.pre _ List.mem_cons_self
  have hts : ∀ w ∈ TB, w.before _ s = true := fun w h => atoms_spec (ws := Cond.code y_CJ_good b_CJ_good 2 (some .boolean) :: TB) B.pre w (List.mem_cons_of_mem _ h)
  have hown : s.vm.findClass "CodeJudge" = some m.cls := findClass_of_methodNamed B.named
  have hlocks := B.notSynchronized
  have hl := lv_entry ([.ref (a 0), .int p1]) (n := 2) (Nat.le_of_ble_eq_true rfl)
  rw [lg_entry_eq]
  generalize (lg_sl ([.ref (a 0), .int p1]) ++ List.replicate (2 - (lg_sl ([.ref (a 0), .int p1])).length) Slot.unset).toArray = ls at hl ⊢
  have hl : lv_has ls 2 [(0, .ref (a 0)), (1, .int p1)] := hl
  suffices hM : ∀ (H : Heap) (locs : List Loc), va_P D vwCl (cw a cI cZ cQ I F) H → va_S (xA 47 a s.heap.size) s.heap H locs → W p l e (headSpec (Cond.code y_CJ_good b_CJ_good 2 (some .boolean) :: TB) { frames := 7, cells := 1, slots := 6, locals := 117 }).room s m ([.ref (a 0), .int p1]).toArray below meth c H locs 0 0 (xt_MQ below (va_Qi (fun r (u : SI × SF) => Post r u.1 u.2) (fun u t => va_P D vwCl (cw a cI cZ cQ u.1 u.2) t.heap) (xA 47 a s.heap.size)) (cXC D a cI cZ cQ PX s.heap.size) ([.ref (a 0), .int p1]).toArray s 1 6 (xA 47 a s.heap.size)) (F0 m 0 ls []) from hM s.heap [] hP va_S.rf
  clear hP
  intro H locs hP hS
  dsimp only [wp_CJ_good] at hw
  refine lv_aload_n hx hb dCJ_good_0 rfl (lv_at hl 0 rfl) ?_
  refine va_get (D := D) (v := .ref (a 2)) (ci := 7) (C := "CodeJudge") (T := T_CJ) (N := 3) hx hb hts in_CJ hown hK hP 0 cw_0 rfl 1 (by decide) (hts (.fieldLink "CodeJudge" 19 "CodeJudge" "judge" "LCodeJudge$Judge;") tw_1_228) (fun _ h9 => h9) rfl dCJ_good_1 ?_
  refine lv_aload_n hx hb dCJ_good_4 rfl (lv_at hl 0 rfl) ?_
  refine va_get (D := D) (v := .ref (a 1)) (ci := 7) (C := "CodeJudge") (T := T_CJ) (N := 3) hx hb hts in_CJ hown hK hP 0 cw_0 rfl 0 (by decide) (hts (.fieldLink "CodeJudge" 11 "CodeJudge" "methods" "[LCodeJudge$Method;") tw_1_227) (fun _ h9 => h9) rfl dCJ_good_5 ?_
  refine lv_aload_n hx hb dCJ_good_8 rfl (lv_at hl 0 rfl) ?_
  refine lv_iload_n hx hb dCJ_good_9 rfl (lv_at hl 1 rfl) ?_
  obtain ⟨P1, PX1, hc1, hx1, hw⟩ := hw
  refine cx_r (xt_runV (As := [.int p1]) (rest := [.ref (a 1), .ref (a 2)]) ⟨hx, hb, hml, hown, hts⟩ (c_CJ_present l hlt D a cI cZ cQ hJ I F p1 H.size P1 PX1 hc1) (cwV 1 hts (tb_V (C := "CodeJudge") wc_CJ_present tw_2_103 tw_2_105 tw_0_1 tw_1_1) rfl rfl rfl (by decide +kernel) ⟨Nat.le_of_ble_eq_true rfl, Nat.le_of_ble_eq_true rfl⟩) ⟨cY_bl, va_recv hK hP rfl cw_0, cY_at hP hK hN hZ hX hS⟩ rfl rfl hl.1 rfl (lv_room (Nat.le_of_ble_eq_true rfl)) dCJ_good_10 ⟨Nat.le_of_ble_eq_true rfl, Nat.le_of_ble_eq_true rfl⟩) hS (fun k1 q1 I1 F1 H locs hP hp1 hS hO => xt_out (covers_of_empty (B.noHandlers hcd) _) hlocks hO (fun t ht => ⟨(I1, F1), hx1 k1 I1 F1 hp1, by subst ht; exact hP, hS.F ht⟩) hS.2.2 (Nat.le_of_ble_eq_true rfl) (Nat.le_of_ble_eq_true rfl)) (fun r1 I1 F1 H locs hr1 hP hp1 hS => ?_)
  have hw := hw r1 I1 F1 hp1
  obtain ⟨P2, hc2, hw⟩ := hw
  refine cc_i (va_runV (As := [.ref (a 1), .ref (a (23 + 3 * r1))]) (rest := []) ⟨hx, hb, hml, hown, hts⟩ (c_Ju_approves l D a cI cZ cQ hJ I1 F1 r1 hr1 H.size P2 hc2) (cwV 2 hts (tb_V (C := "CodeJudge$Judge") wc_Ju_approves tw_2_169 tw_2_170 tw_2_171 tw_1_3) rfl rfl rfl (by decide +kernel) ⟨Nat.le_of_ble_eq_true rfl, Nat.le_of_ble_eq_true rfl⟩) ⟨cP_bl, va_recv hK hP rfl cw_2, cP_at hP hK hN⟩ rfl rfl hl.1 rfl (lv_room (Nat.le_of_ble_eq_true rfl)) dCJ_good_13 ⟨Nat.le_of_ble_eq_true rfl, Nat.le_of_ble_eq_true rfl⟩) hS (fun r2 I2 F2 H locs hP hp2 hS => ?_)
  have hw := hw r2 I2 F2 hp2
  obtain ⟨h3, hw⟩ := hw
  refine W.widen (k := 1) (n := 6) (Nat.le_of_ble_eq_true rfl) (Nat.le_of_ble_eq_true rfl) ?_
  exact xt_ret (W.zret (v := r2) hx hb hr (bo_n h3) (fun t ht hW => ⟨⟨r2, (I2, F2), rfl, hw, by subst ht; exact hP⟩, hS.F ht⟩) hS.2.2 dCJ_good_16)
def wp_CJ_height (p1 : Int32) (p2 : Int32) (I : SI) (F : SF) (Post : Int32 → SI → SF → Prop) (PX : Nat → SI → SF → Prop) : Prop := ∃ (P1 : Nat → SI → SF → Prop) (PX1 : Nat → SI → SF → Prop), wp_CJ_presentWith p1 p2 I F P1 PX1 ∧ (∀ k I F, PX1 k I F → PX k I F) ∧ ∀ r1 I1 F1, P1 r1 I1 F1 → (∃ (P2 : SI → SF → Prop) (PX2 : Nat → SI → SF → Prop), wp_CJ_needGood r1 I1 F1 P2 PX2 ∧ (∀ k I F, PX2 k I F → PX k I F) ∧ ∀ I2 F2, P2 I2 F2 → (∃ P3 : Int32 → SI → SF → Prop, wp_Ju_heightAt p2 I2 F2 P3 ∧ ∀ r3 I3 F3, P3 r3 I3 F3 → (Post r3 I3 F3)))
set_option maxHeartbeats 4000000 in
set_option maxRecDepth 100000 in
theorem c_CJ_height (l : Launch) (hlt : l.stackTraces = false) (D : va_G) (a : Nat → Nat) (cI cZ cQ : ClassId) (hJ : xJ 47 a) (I : SI) (F : SF) (p1 : Int32) (p2 : Int32) (sz : Nat) (Post : Int32 → SI → SF → Prop) (PX : Nat → SI → SF → Prop) (hw : wp_CJ_height p1 p2 I F Post PX) : xt_Met l y_CJ_height (Cond.code y_CJ_height b_CJ_height 4 (some .int) :: TB) { frames := 8, cells := 3, slots := 18, locals := 140 } (va_Pc [.ref (a 0), .int p1, .int p2] (cY D a cI cZ cQ I F sz)) (va_Qi (fun r (u : SI × SF) => Post r u.1 u.2) (fun u t => va_P D vwCl (cw a cI cZ cQ u.1 u.2) t.heap) (xA 47 a sz)) (cXC D a cI cZ cQ PX sz) 3 18 (xA 47 a sz) := by
  refine xt_ofW (cc := b_CJ_height) (maxL := 4) (ret := (some .int)) (by decide) rfl ?_
  intro p e s m args below meth c s₁ B hml hv
  obtain ⟨rfl, ⟨⟨rfl, hP, hK, hN⟩, hZ⟩, hX⟩ := hv
  have hx := B.exec
  have hb := B.bytes
  have hr := B.returns
  have hcd := atoms_spec (ws := Cond.code y_CJ_height b_CJ_height 4 (some .int) :: TB) B.pre _ List.mem_cons_self
  have hts : ∀ w ∈ TB, w.before _ s = true := fun w h => atoms_spec (ws := Cond.code y_CJ_height b_CJ_height 4 (some .int) :: TB) B.pre w (List.mem_cons_of_mem _ h)
  have hown : s.vm.findClass "CodeJudge" = some m.cls := findClass_of_methodNamed B.named
  have hlocks := B.notSynchronized
  have hl := lv_entry ([.ref (a 0), .int p1, .int p2]) (n := 4) (Nat.le_of_ble_eq_true rfl)
  rw [lg_entry_eq]
  generalize (lg_sl ([.ref (a 0), .int p1, .int p2]) ++ List.replicate (4 - (lg_sl ([.ref (a 0), .int p1, .int p2])).length) Slot.unset).toArray = ls at hl ⊢
  have hl : lv_has ls 4 [(0, .ref (a 0)), (1, .int p1), (2, .int p2)] := hl
  suffices hM : ∀ (H : Heap) (locs : List Loc), va_P D vwCl (cw a cI cZ cQ I F) H → va_S (xA 47 a s.heap.size) s.heap H locs → W p l e (headSpec (Cond.code y_CJ_height b_CJ_height 4 (some .int) :: TB) { frames := 8, cells := 3, slots := 18, locals := 140 }).room s m ([.ref (a 0), .int p1, .int p2]).toArray below meth c H locs 0 0 (xt_MQ below (va_Qi (fun r (u : SI × SF) => Post r u.1 u.2) (fun u t => va_P D vwCl (cw a cI cZ cQ u.1 u.2) t.heap) (xA 47 a s.heap.size)) (cXC D a cI cZ cQ PX s.heap.size) ([.ref (a 0), .int p1, .int p2]).toArray s 3 18 (xA 47 a s.heap.size)) (F0 m 0 ls []) from hM s.heap [] hP va_S.rf
  clear hP
  intro H locs hP hS
  dsimp only [wp_CJ_height] at hw
  refine lv_aload_n hx hb dCJ_height_0 rfl (lv_at hl 0 rfl) ?_
  refine lv_iload_n hx hb dCJ_height_1 rfl (lv_at hl 1 rfl) ?_
  refine lv_iload_n hx hb dCJ_height_2 rfl (lv_at hl 2 rfl) ?_
  obtain ⟨P1, PX1, hc1, hx1, hw⟩ := hw
  refine cx_r (xt_runV (As := [.int p1, .int p2]) (rest := []) ⟨hx, hb, hml, hown, hts⟩ (c_CJ_presentWith l hlt D a cI cZ cQ hJ I F p1 p2 H.size P1 PX1 hc1) (cwV 2 hts (tb_V (C := "CodeJudge") wc_CJ_presentWith tw_2_133 tw_2_135 tw_0_2 tw_1_1) rfl rfl rfl (by decide +kernel) ⟨Nat.le_of_ble_eq_true rfl, Nat.le_of_ble_eq_true rfl⟩) ⟨cY_bl, va_recv hK hP rfl cw_0, cY_at hP hK hN hZ hX hS⟩ rfl rfl hl.1 rfl (lv_room (Nat.le_of_ble_eq_true rfl)) dCJ_height_3 ⟨Nat.le_of_ble_eq_true rfl, Nat.le_of_ble_eq_true rfl⟩) hS (fun k1 q1 I1 F1 H locs hP hp1 hS hO => xt_out (covers_of_empty (B.noHandlers hcd) _) hlocks hO (fun t ht => ⟨(I1, F1), hx1 k1 I1 F1 hp1, by subst ht; exact hP, hS.F ht⟩) hS.2.2 (Nat.le_of_ble_eq_true rfl) (Nat.le_of_ble_eq_true rfl)) (fun r1 I1 F1 H locs hr1 hP hp1 hS => ?_)
  have hw := hw r1 I1 F1 hp1
  refine lv_astore_n (lv' := [(3, .ref (a (23 + 3 * r1))), (0, .ref (a 0)), (1, .int p1), (2, .int p2)]) hx hb dCJ_height_6 rfl hl (by decide) rfl (fun ls hl => ?_)
  refine lv_aload_n hx hb dCJ_height_7 rfl (lv_at hl 1 rfl) ?_
  refine lv_aload_n hx hb dCJ_height_8 rfl (lv_at hl 0 rfl) ?_
  obtain ⟨P2, PX2, hc2, hx2, hw⟩ := hw
  refine cx_v (xt_runV (As := [.ref (a (23 + 3 * r1))]) (rest := []) ⟨hx, hb, hml, hown, hts⟩ (c_CJ_needGood l hlt D a cI cZ cQ hJ I1 F1 r1 hr1 H.size P2 PX2 hc2) (cwV 1 hts (tb_V (C := "CodeJudge") wc_CJ_needGood tw_3_17 tw_3_19 tw_0_8 tw_1_1) rfl rfl rfl (by decide +kernel) ⟨Nat.le_of_ble_eq_true rfl, Nat.le_of_ble_eq_true rfl⟩) ⟨cY_bl, va_recv hK hP rfl cw_0, cY_at hP hK hN hZ hX hS⟩ rfl rfl hl.1 rfl (lv_room (Nat.le_of_ble_eq_true rfl)) dCJ_height_9 ⟨Nat.le_of_ble_eq_true rfl, Nat.le_of_ble_eq_true rfl⟩) hS (fun k2 q2 I2 F2 H locs hP hp2 hS hO => xt_out (covers_of_empty (B.noHandlers hcd) _) hlocks hO (fun t ht => ⟨(I2, F2), hx2 k2 I2 F2 hp2, by subst ht; exact hP, hS.F ht⟩) hS.2.2 (Nat.le_of_ble_eq_true rfl) (Nat.le_of_ble_eq_true rfl)) (fun I2 F2 H locs hP hp2 hS => ?_)
  have hw := hw I2 F2 hp2
  refine lv_aload_n hx hb dCJ_height_12 rfl (lv_at hl 1 rfl) ?_
  refine va_get (D := D) (v := .ref (a 2)) (ci := 7) (C := "CodeJudge") (T := T_CJ) (N := 3) hx hb hts in_CJ hown hK hP 0 cw_0 rfl 1 (by decide) (hts (.fieldLink "CodeJudge" 19 "CodeJudge" "judge" "LCodeJudge$Judge;") tw_1_228) (fun _ h9 => h9) rfl dCJ_height_13 ?_
  refine lv_iload_n hx hb dCJ_height_16 rfl (lv_at hl 3 rfl) ?_
  obtain ⟨P3, hc3, hw⟩ := hw
  refine cc_i (va_runV (As := [.int p2]) (rest := []) ⟨hx, hb, hml, hown, hts⟩ (c_Ju_heightAt l D a cI cZ cQ hJ I2 F2 p2 H.size P3 hc3) (cwV 1 hts (tb_V (C := "CodeJudge$Judge") wc_Ju_heightAt tw_3_21 tw_3_22 tw_3_23 tw_1_3) rfl rfl rfl (by decide +kernel) ⟨Nat.le_of_ble_eq_true rfl, Nat.le_of_ble_eq_true rfl⟩) ⟨cP_bl, va_recv hK hP rfl cw_2, cP_at hP hK hN⟩ rfl rfl hl.1 rfl (lv_room (Nat.le_of_ble_eq_true rfl)) dCJ_height_17 ⟨Nat.le_of_ble_eq_true rfl, Nat.le_of_ble_eq_true rfl⟩) hS (fun r3 I3 F3 H locs hP hp3 hS => ?_)
  have hw := hw r3 I3 F3 hp3
  refine W.widen (k := 3) (n := 18) (Nat.le_of_ble_eq_true rfl) (Nat.le_of_ble_eq_true rfl) ?_
  exact xt_ret (W.iret (v := r3) hx hb hr (fun t ht hW => ⟨⟨r3, (I3, F3), rfl, hw, by subst ht; exact hP⟩, hS.F ht⟩) hS.2.2 dCJ_height_20)
def wp_CJ_type_40 (Post : Int32 → SI → SF → Prop) (PX : Nat → SI → SF → Prop) (x2 : Int32) (x3 : Int32) (x4 : Int32) (kx5 : Nat) (I : SI) (F : SF) : Prop := ∃ (P4 : SI → SF → Prop) (PX4 : Nat → SI → SF → Prop), wp_CJ_needGood kx5 I F P4 PX4 ∧ (∀ k I F, PX4 k I F → PX k I F) ∧ ∀ I4 F4, P4 I4 F4 → ((¬ x3 = 0 → (∃ P6 : Int32 → SI → SF → Prop, wp_Ju_localTypeAt x2 x4 I4 F4 P6 ∧ ∀ r6 I6 F6, P6 r6 I6 F6 → (Post r6 I6 F6))) ∧ (x3 = 0 → (∃ P7 : Int32 → SI → SF → Prop, wp_Ju_stackTypeAt x2 x4 I4 F4 P7 ∧ ∀ r7 I7 F7, P7 r7 I7 F7 → (Post r7 I7 F7))))
def wp_CJ_type (p1 : Int32) (p2 : Int32) (p3 : Int32) (p4 : Int32) (I : SI) (F : SF) (Post : Int32 → SI → SF → Prop) (PX : Nat → SI → SF → Prop) : Prop := ∃ (P1 : Nat → SI → SF → Prop) (PX1 : Nat → SI → SF → Prop), wp_CJ_presentWith p1 p2 I F P1 PX1 ∧ (∀ k I F, PX1 k I F → PX k I F) ∧ ∀ r1 I1 F1, P1 r1 I1 F1 → ((p4 < 0 → (PX 1 I1 F1)) ∧ (¬ p4 < 0 → ((p3 = 0 → (wp_CJ_type_40 Post PX p2 p3 p4 r1 I1 F1)) ∧ (¬ p3 = 0 → ((¬ p3 = 1 → (PX 1 I1 F1)) ∧ (p3 = 1 → ((p4 < (I1 (24 + 10 * r1)) → (wp_CJ_type_40 Post PX p2 p3 p4 r1 I1 F1)) ∧ (¬ p4 < (I1 (24 + 10 * r1)) → (PX 1 I1 F1)))))))))
set_option maxHeartbeats 4000000 in
set_option maxRecDepth 100000 in
theorem c_CJ_type (l : Launch) (hlt : l.stackTraces = false) (D : va_G) (a : Nat → Nat) (cI cZ cQ : ClassId) (hJ : xJ 47 a) (I : SI) (F : SF) (p1 : Int32) (p2 : Int32) (p3 : Int32) (p4 : Int32) (sz : Nat) (Post : Int32 → SI → SF → Prop) (PX : Nat → SI → SF → Prop) (hw : wp_CJ_type p1 p2 p3 p4 I F Post PX) : xt_Met l y_CJ_type (Cond.code y_CJ_type b_CJ_type 6 (some .int) :: TB) { frames := 8, cells := 3, slots := 18, locals := 140 } (va_Pc [.ref (a 0), .int p1, .int p2, .int p3, .int p4] (cY D a cI cZ cQ I F sz)) (va_Qi (fun r (u : SI × SF) => Post r u.1 u.2) (fun u t => va_P D vwCl (cw a cI cZ cQ u.1 u.2) t.heap) (xA 47 a sz)) (cXC D a cI cZ cQ PX sz) 3 18 (xA 47 a sz) := by
  refine xt_ofW (cc := b_CJ_type) (maxL := 6) (ret := (some .int)) (by decide) rfl ?_
  intro p e s m args below meth c s₁ B hml hv
  obtain ⟨rfl, ⟨⟨rfl, hP, hK, hN⟩, hZ⟩, hX⟩ := hv
  have hx := B.exec
  have hb := B.bytes
  have hr := B.returns
  have hcd := atoms_spec (ws := Cond.code y_CJ_type b_CJ_type 6 (some .int) :: TB) B.pre _ List.mem_cons_self
  have hts : ∀ w ∈ TB, w.before _ s = true := fun w h => atoms_spec (ws := Cond.code y_CJ_type b_CJ_type 6 (some .int) :: TB) B.pre w (List.mem_cons_of_mem _ h)
  have hown : s.vm.findClass "CodeJudge" = some m.cls := findClass_of_methodNamed B.named
  have hlocks := B.notSynchronized
  have hl := lv_entry ([.ref (a 0), .int p1, .int p2, .int p3, .int p4]) (n := 6) (Nat.le_of_ble_eq_true rfl)
  rw [lg_entry_eq]
  generalize (lg_sl ([.ref (a 0), .int p1, .int p2, .int p3, .int p4]) ++ List.replicate (6 - (lg_sl ([.ref (a 0), .int p1, .int p2, .int p3, .int p4])).length) Slot.unset).toArray = ls at hl ⊢
  have hl : lv_has ls 6 [(0, .ref (a 0)), (1, .int p1), (2, .int p2), (3, .int p3), (4, .int p4)] := hl
  obtain ⟨Q, hQ⟩ : ∃ Q, Q = xt_MQ below (va_Qi (fun r (u : SI × SF) => Post r u.1 u.2) (fun u t => va_P D vwCl (cw a cI cZ cQ u.1 u.2) t.heap) (xA 47 a s.heap.size)) (cXC D a cI cZ cQ PX s.heap.size) ([.ref (a 0), .int p1, .int p2, .int p3, .int p4]).toArray s 3 18 (xA 47 a s.heap.size) := ⟨_, rfl⟩
  rw [← hQ]
  have J40 : ∀ (x2 : Int32) (x3 : Int32) (x4 : Int32) (kx5 : Nat) (I : SI) (F : SF) (H : Heap) (locs : List Loc) (ls : Array Slot) (hkx5 : kx5 < 8), lv_has ls 6 [(0, .ref (a 0)), (2, .int x2), (3, .int x3), (4, .int x4), (5, .ref (a (23 + 3 * kx5)))] → va_P D vwCl (cw a cI cZ cQ I F) H → va_S (xA 47 a s.heap.size) s.heap H locs → wp_CJ_type_40 Post PX x2 x3 x4 kx5 I F → W p l e (headSpec (Cond.code y_CJ_type b_CJ_type 6 (some .int) :: TB) { frames := 8, cells := 3, slots := 18, locals := 140 }).room s m ([.ref (a 0), .int p1, .int p2, .int p3, .int p4]).toArray below meth c H locs 2 12 Q (F0 m 40 ls []) := by
    intro x2 x3 x4 kx5 I F H locs ls hkx5 hl hP hS hw
    dsimp only [wp_CJ_type_40] at hw
    refine lv_aload_n hx hb dCJ_type_40 rfl (lv_at hl 0 rfl) ?_
    refine lv_aload hx hb dCJ_type_41 (lv_at hl 4 rfl) ?_
    obtain ⟨P4, PX4, hc4, hx4, hw⟩ := hw
    refine cx_v (xt_runV (As := [.ref (a (23 + 3 * kx5))]) (rest := []) ⟨hx, hb, hml, hown, hts⟩ (c_CJ_needGood l hlt D a cI cZ cQ hJ I F kx5 hkx5 H.size P4 PX4 hc4) (cwV 1 hts (tb_V (C := "CodeJudge") wc_CJ_needGood tw_3_17 tw_3_19 tw_0_8 tw_1_1) rfl rfl rfl (by decide +kernel) ⟨Nat.le_of_ble_eq_true rfl, Nat.le_of_ble_eq_true rfl⟩) ⟨cY_bl, va_recv hK hP rfl cw_0, cY_at hP hK hN hZ hX hS⟩ rfl rfl hl.1 rfl (lv_room (Nat.le_of_ble_eq_true rfl)) dCJ_type_43 ⟨Nat.le_of_ble_eq_true rfl, Nat.le_of_ble_eq_true rfl⟩) hS (fun k4 q4 I4 F4 H locs hP hp4 hS hO => hQ ▸ xt_out (covers_of_empty (B.noHandlers hcd) _) hlocks hO (fun t ht => ⟨(I4, F4), hx4 k4 I4 F4 hp4, by subst ht; exact hP, hS.F ht⟩) hS.2.2 (Nat.le_of_ble_eq_true rfl) (Nat.le_of_ble_eq_true rfl)) (fun I4 F4 H locs hP hp4 hS => ?_)
    have hw := hw I4 F4 hp4
    refine lv_iload_n hx hb dCJ_type_46 rfl (lv_at hl 2 rfl) ?_
    refine lv_if_ne (tgt := 63) hx hb dCJ_type_47 (by decide) (fun h5 => ?_) (fun h5 => ?_)
    · have hw := hw.1 h5
      refine lv_aload_n hx hb dCJ_type_63 rfl (lv_at hl 0 rfl) ?_
      refine va_get (D := D) (v := .ref (a 2)) (ci := 7) (C := "CodeJudge") (T := T_CJ) (N := 3) hx hb hts in_CJ hown hK hP 0 cw_0 rfl 1 (by decide) (hts (.fieldLink "CodeJudge" 19 "CodeJudge" "judge" "LCodeJudge$Judge;") tw_1_228) (fun _ h9 => h9) rfl dCJ_type_64 ?_
      refine lv_iload_n hx hb dCJ_type_67 rfl (lv_at hl 1 rfl) ?_
      refine lv_iload hx hb dCJ_type_68 (lv_at hl 3 rfl) ?_
      obtain ⟨P6, hc6, hw⟩ := hw
      refine cc_i (va_runV (As := [.int x2, .int x4]) (rest := []) ⟨hx, hb, hml, hown, hts⟩ (c_Ju_localTypeAt l D a cI cZ cQ hJ I4 F4 x2 x4 H.size P6 hc6) (cwV 2 hts (tb_V (C := "CodeJudge$Judge") wc_Ju_localTypeAt tw_3_37 tw_3_38 tw_3_39 tw_1_3) rfl rfl rfl (by decide +kernel) ⟨Nat.le_of_ble_eq_true rfl, Nat.le_of_ble_eq_true rfl⟩) ⟨cP_bl, va_recv hK hP rfl cw_2, cP_at hP hK hN⟩ rfl rfl hl.1 rfl (lv_room (Nat.le_of_ble_eq_true rfl)) dCJ_type_70 ⟨Nat.le_of_ble_eq_true rfl, Nat.le_of_ble_eq_true rfl⟩) hS (fun r6 I6 F6 H locs hP hp6 hS => ?_)
      have hw := hw r6 I6 F6 hp6
      rw [hQ]
      refine W.widen (k := 3) (n := 18) (Nat.le_of_ble_eq_true rfl) (Nat.le_of_ble_eq_true rfl) ?_
      exact xt_ret (W.iret (v := r6) hx hb hr (fun t ht hW => ⟨⟨r6, (I6, F6), rfl, hw, by subst ht; exact hP⟩, hS.F ht⟩) hS.2.2 dCJ_type_73)
    · have hw := hw.2 h5
      refine lv_aload_n hx hb dCJ_type_50 rfl (lv_at hl 0 rfl) ?_
      refine va_get (D := D) (v := .ref (a 2)) (ci := 7) (C := "CodeJudge") (T := T_CJ) (N := 3) hx hb hts in_CJ hown hK hP 0 cw_0 rfl 1 (by decide) (hts (.fieldLink "CodeJudge" 19 "CodeJudge" "judge" "LCodeJudge$Judge;") tw_1_228) (fun _ h9 => h9) rfl dCJ_type_51 ?_
      refine lv_iload_n hx hb dCJ_type_54 rfl (lv_at hl 1 rfl) ?_
      refine lv_iload hx hb dCJ_type_55 (lv_at hl 3 rfl) ?_
      obtain ⟨P7, hc7, hw⟩ := hw
      refine cc_i (va_runV (As := [.int x2, .int x4]) (rest := []) ⟨hx, hb, hml, hown, hts⟩ (c_Ju_stackTypeAt l D a cI cZ cQ hJ I4 F4 x2 x4 H.size P7 hc7) (cwV 2 hts (tb_V (C := "CodeJudge$Judge") wc_Ju_stackTypeAt tw_3_32 tw_3_33 tw_3_34 tw_1_3) rfl rfl rfl (by decide +kernel) ⟨Nat.le_of_ble_eq_true rfl, Nat.le_of_ble_eq_true rfl⟩) ⟨cP_bl, va_recv hK hP rfl cw_2, cP_at hP hK hN⟩ rfl rfl hl.1 rfl (lv_room (Nat.le_of_ble_eq_true rfl)) dCJ_type_57 ⟨Nat.le_of_ble_eq_true rfl, Nat.le_of_ble_eq_true rfl⟩) hS (fun r7 I7 F7 H locs hP hp7 hS => ?_)
      have hw := hw r7 I7 F7 hp7
      refine lv_goto (tgt := 73) hx hb dCJ_type_60 (by decide) ?_
      rw [hQ]
      refine W.widen (k := 3) (n := 18) (Nat.le_of_ble_eq_true rfl) (Nat.le_of_ble_eq_true rfl) ?_
      exact xt_ret (W.iret (v := r7) hx hb hr (fun t ht hW => ⟨⟨r7, (I7, F7), rfl, hw, by subst ht; exact hP⟩, hS.F ht⟩) hS.2.2 dCJ_type_73)
  suffices hM : ∀ (H : Heap) (locs : List Loc), va_P D vwCl (cw a cI cZ cQ I F) H → va_S (xA 47 a s.heap.size) s.heap H locs → W p l e (headSpec (Cond.code y_CJ_type b_CJ_type 6 (some .int) :: TB) { frames := 8, cells := 3, slots := 18, locals := 140 }).room s m ([.ref (a 0), .int p1, .int p2, .int p3, .int p4]).toArray below meth c H locs 0 0 (Q) (F0 m 0 ls []) from hM s.heap [] hP va_S.rf
  clear hP
  intro H locs hP hS
  dsimp only [wp_CJ_type] at hw
  refine lv_aload_n hx hb dCJ_type_0 rfl (lv_at hl 0 rfl) ?_
  refine lv_iload_n hx hb dCJ_type_1 rfl (lv_at hl 1 rfl) ?_
  refine lv_iload_n hx hb dCJ_type_2 rfl (lv_at hl 2 rfl) ?_
  obtain ⟨P1, PX1, hc1, hx1, hw⟩ := hw
  refine cx_r (xt_runV (As := [.int p1, .int p2]) (rest := []) ⟨hx, hb, hml, hown, hts⟩ (c_CJ_presentWith l hlt D a cI cZ cQ hJ I F p1 p2 H.size P1 PX1 hc1) (cwV 2 hts (tb_V (C := "CodeJudge") wc_CJ_presentWith tw_2_133 tw_2_135 tw_0_2 tw_1_1) rfl rfl rfl (by decide +kernel) ⟨Nat.le_of_ble_eq_true rfl, Nat.le_of_ble_eq_true rfl⟩) ⟨cY_bl, va_recv hK hP rfl cw_0, cY_at hP hK hN hZ hX hS⟩ rfl rfl hl.1 rfl (lv_room (Nat.le_of_ble_eq_true rfl)) dCJ_type_3 ⟨Nat.le_of_ble_eq_true rfl, Nat.le_of_ble_eq_true rfl⟩) hS (fun k1 q1 I1 F1 H locs hP hp1 hS hO => hQ ▸ xt_out (covers_of_empty (B.noHandlers hcd) _) hlocks hO (fun t ht => ⟨(I1, F1), hx1 k1 I1 F1 hp1, by subst ht; exact hP, hS.F ht⟩) hS.2.2 (Nat.le_of_ble_eq_true rfl) (Nat.le_of_ble_eq_true rfl)) (fun r1 I1 F1 H locs hr1 hP hp1 hS => ?_)
  have hw := hw r1 I1 F1 hp1
  refine lv_astore (lv' := [(5, .ref (a (23 + 3 * r1))), (0, .ref (a 0)), (1, .int p1), (2, .int p2), (3, .int p3), (4, .int p4)]) hx hb dCJ_type_6 hl (by decide) rfl (fun ls hl => ?_)
  refine lv_iload hx hb dCJ_type_8 (lv_at hl 5 rfl) ?_
  refine lv_if_lt (tgt := 32) hx hb dCJ_type_10 (by decide) (fun h2 => ?_) (fun h2 => ?_)
  · have hw := hw.1 h2
    rw [hQ]
    exact xt_throw (k := 1) (ik := 34) (ic := 36) (own := "CodeJudge") (cls := "java/util/NoSuchElementException") (names := ["java/lang/RuntimeException", "java/lang/Exception"]) (A := xA 47 a s.heap.size) hx hb hlt hown rfl (by decide +kernel) (by decide +kernel) (hts _ tw_2_9) (hts _ tw_1_13) (xw_hat (by decide) xw_1 hts hX) (xw_off xw_1) hZ hS (hl.1.trans hml.symm) dCJ_type_32 dCJ_type_35 dCJ_type_36 dCJ_type_39 (covers_of_empty (B.noHandlers hcd) _) hlocks (Nat.le_of_ble_eq_true rfl) (Nat.le_of_ble_eq_true rfl) (Nat.le_of_ble_eq_true rfl) (Nat.le_of_ble_eq_true rfl) (fun t h1 h2 => xt_px hP hS hw t h1 h2) hS.2.2 (Nat.le_of_ble_eq_true rfl) (Nat.le_of_ble_eq_true rfl)
  · have hw := hw.2 h2
    refine lv_iload_n hx hb dCJ_type_13 rfl (lv_at hl 4 rfl) ?_
    refine lv_if_eq (tgt := 40) hx hb dCJ_type_14 (by decide) (fun h3 => ?_) (fun h3 => ?_)
    · have hw := hw.1 h3
      exact J40 p2 p3 p4 r1 I1 F1 H locs ls hr1 (lv_sub hl [1, 3, 4, 5, 0] rfl) hP hS hw
    · have hw := hw.2 h3
      refine lv_iload_n hx hb dCJ_type_17 rfl (lv_at hl 4 rfl) ?_
      refine lv_iconst (v := 1) hx hb dCJ_type_18 (by decide) ?_
      refine lv_icmp_ne (tgt := 32) hx hb dCJ_type_19 (by decide) (fun h8 => ?_) (fun h8 => ?_)
      · have hw := hw.1 h8
        rw [hQ]
        exact xt_throw (k := 1) (ik := 34) (ic := 36) (own := "CodeJudge") (cls := "java/util/NoSuchElementException") (names := ["java/lang/RuntimeException", "java/lang/Exception"]) (A := xA 47 a s.heap.size) hx hb hlt hown rfl (by decide +kernel) (by decide +kernel) (hts _ tw_2_9) (hts _ tw_1_13) (xw_hat (by decide) xw_1 hts hX) (xw_off xw_1) hZ hS (hl.1.trans hml.symm) dCJ_type_32 dCJ_type_35 dCJ_type_36 dCJ_type_39 (covers_of_empty (B.noHandlers hcd) _) hlocks (Nat.le_of_ble_eq_true rfl) (Nat.le_of_ble_eq_true rfl) (Nat.le_of_ble_eq_true rfl) (Nat.le_of_ble_eq_true rfl) (fun t h1 h2 => xt_px hP hS hw t h1 h2) hS.2.2 (Nat.le_of_ble_eq_true rfl) (Nat.le_of_ble_eq_true rfl)
      · have hw := hw.2 h8
        refine lv_iload hx hb dCJ_type_22 (lv_at hl 5 rfl) ?_
        refine lv_aload hx hb dCJ_type_24 (lv_at hl 0 rfl) ?_
        refine va_get (D := D) (v := .int (I1 (24 + 10 * r1))) (ci := 4) (C := "CodeJudge$Method") (T := T_Me) (N := 9) hx hb hts in_Me hown hK hP (23 + 3 * r1) (cw_M hr1) rfl 4 (by decide) (hts (.fieldLink "CodeJudge" 93 "CodeJudge$Method" "locals" "I") tw_1_47) (fun _ h9 => h9) rfl dCJ_type_26 ?_
        refine lv_icmp_lt (tgt := 40) hx hb dCJ_type_29 (by decide) (fun h9 => ?_) (fun h9 => ?_)
        · have hw := hw.1 h9
          exact J40 p2 p3 p4 r1 I1 F1 H locs ls hr1 (lv_sub hl [1, 3, 4, 5, 0] rfl) hP hS hw
        · have hw := hw.2 h9
          rw [hQ]
          exact xt_throw (k := 1) (ik := 34) (ic := 36) (own := "CodeJudge") (cls := "java/util/NoSuchElementException") (names := ["java/lang/RuntimeException", "java/lang/Exception"]) (A := xA 47 a s.heap.size) hx hb hlt hown rfl (by decide +kernel) (by decide +kernel) (hts _ tw_2_9) (hts _ tw_1_13) (xw_hat (by decide) xw_1 hts hX) (xw_off xw_1) hZ hS (hl.1.trans hml.symm) dCJ_type_32 dCJ_type_35 dCJ_type_36 dCJ_type_39 (covers_of_empty (B.noHandlers hcd) _) hlocks (Nat.le_of_ble_eq_true rfl) (Nat.le_of_ble_eq_true rfl) (Nat.le_of_ble_eq_true rfl) (Nat.le_of_ble_eq_true rfl) (fun t h1 h2 => xt_px hP hS hw t h1 h2) hS.2.2 (Nat.le_of_ble_eq_true rfl) (Nat.le_of_ble_eq_true rfl)
def wp_CJ_start (p1 : Int32) (p2 : Int32) (p3 : Int32) (p4 : Int32) (p5 : Int32) (I : SI) (F : SF) (Post : SI → SF → Prop) (PX : Nat → SI → SF → Prop) : Prop := ∃ (P1 : Nat → SI → SF → Prop) (PX1 : Nat → SI → SF → Prop), wp_CJ_present p1 I F P1 PX1 ∧ (∀ k I F, PX1 k I F → PX k I F) ∧ ∀ r1 I1 F1, P1 r1 I1 F1 → (∃ P2 : Int32 → SI → SF → Prop, wp_CJ_cellsFit r1 0 p2 I1 F1 P2 ∧ ∀ r2 I2 F2, P2 r2 I2 F2 → ((r2 = 0 → (PX 2 I2 F2)) ∧ (¬ r2 = 0 → (∃ P4 : Int32 → SI → SF → Prop, wp_CJ_cellsFit r1 1 p3 I2 F2 P4 ∧ ∀ r4 I4 F4, P4 r4 I4 F4 → ((r4 = 0 → (PX 2 I4 F4)) ∧ (¬ r4 = 0 → (∃ P6 : Int32 → SI → SF → Prop, wp_CJ_cellsFit r1 2 p4 I4 F4 P6 ∧ ∀ r6 I6 F6, P6 r6 I6 F6 → ((r6 = 0 → (PX 2 I6 F6)) ∧ (¬ r6 = 0 → (∃ P8 : Int32 → SI → SF → Prop, wp_CJ_cellsFit r1 3 p5 I6 F6 P8 ∧ ∀ r8 I8 F8, P8 r8 I8 F8 → ((¬ r8 = 0 → (∃ P10 : Int32 → SI → SF → Prop, wp_CJ_areGoodFrom p1 I8 F8 P10 ∧ ∀ r10 I10 F10, P10 r10 I10 F10 → ((¬ r10 = 0 → (∃ P12 : SI → SF → Prop, wp_Ma_begin p1 I10 F10 P12 ∧ ∀ I12 F12, P12 I12 F12 → (∃ P13 : SI → SF → Prop, wp_Ma_give r1 0 p2 I12 F12 P13 ∧ ∀ I13 F13, P13 I13 F13 → (∃ P14 : SI → SF → Prop, wp_Ma_give r1 1 p3 I13 F13 P14 ∧ ∀ I14 F14, P14 I14 F14 → (∃ P15 : SI → SF → Prop, wp_Ma_give r1 2 p4 I14 F14 P15 ∧ ∀ I15 F15, P15 I15 F15 → (∃ P16 : SI → SF → Prop, wp_Ma_give r1 3 p5 I15 F15 P16 ∧ ∀ I16 F16, P16 I16 F16 → (Post I16 F16))))))) ∧ (r10 = 0 → (PX 3 I10 F10))))) ∧ (r8 = 0 → (PX 2 I8 F8)))))))))))))
set_option maxHeartbeats 4000000 in
set_option maxRecDepth 100000 in
theorem c_CJ_start (l : Launch) (hlt : l.stackTraces = false) (D : va_G) (a : Nat → Nat) (cI cZ cQ : ClassId) (hJ : xJ 47 a) (I : SI) (F : SF) (p1 : Int32) (p2 : Int32) (p3 : Int32) (p4 : Int32) (p5 : Int32) (sz : Nat) (Post : SI → SF → Prop) (PX : Nat → SI → SF → Prop) (hw : wp_CJ_start p1 p2 p3 p4 p5 I F Post PX) : xt_Met l y_CJ_start (Cond.code y_CJ_start b_CJ_start 7 none :: TB) { frames := 7, cells := 2, slots := 12, locals := 140 } (va_Pc [.ref (a 0), .int p1, .int p2, .int p3, .int p4, .int p5] (cY D a cI cZ cQ I F sz)) (va_Qv (fun (u : SI × SF) => Post u.1 u.2) (fun u t => va_P D vwCl (cw a cI cZ cQ u.1 u.2) t.heap) (xA 47 a sz)) (cXC D a cI cZ cQ PX sz) 2 12 (xA 47 a sz) := by
  refine xt_ofW (cc := b_CJ_start) (maxL := 7) (ret := none) (by decide) rfl ?_
  intro p e s m args below meth c s₁ B hml hv
  obtain ⟨rfl, ⟨⟨rfl, hP, hK, hN⟩, hZ⟩, hX⟩ := hv
  have hx := B.exec
  have hb := B.bytes
  have hr := B.returns
  have hcd := atoms_spec (ws := Cond.code y_CJ_start b_CJ_start 7 none :: TB) B.pre _ List.mem_cons_self
  have hts : ∀ w ∈ TB, w.before _ s = true := fun w h => atoms_spec (ws := Cond.code y_CJ_start b_CJ_start 7 none :: TB) B.pre w (List.mem_cons_of_mem _ h)
  have hown : s.vm.findClass "CodeJudge" = some m.cls := findClass_of_methodNamed B.named
  have hlocks := B.notSynchronized
  have hl := lv_entry ([.ref (a 0), .int p1, .int p2, .int p3, .int p4, .int p5]) (n := 7) (Nat.le_of_ble_eq_true rfl)
  rw [lg_entry_eq]
  generalize (lg_sl ([.ref (a 0), .int p1, .int p2, .int p3, .int p4, .int p5]) ++ List.replicate (7 - (lg_sl ([.ref (a 0), .int p1, .int p2, .int p3, .int p4, .int p5])).length) Slot.unset).toArray = ls at hl ⊢
  have hl : lv_has ls 7 [(0, .ref (a 0)), (1, .int p1), (2, .int p2), (3, .int p3), (4, .int p4), (5, .int p5)] := hl
  suffices hM : ∀ (H : Heap) (locs : List Loc), va_P D vwCl (cw a cI cZ cQ I F) H → va_S (xA 47 a s.heap.size) s.heap H locs → W p l e (headSpec (Cond.code y_CJ_start b_CJ_start 7 none :: TB) { frames := 7, cells := 2, slots := 12, locals := 140 }).room s m ([.ref (a 0), .int p1, .int p2, .int p3, .int p4, .int p5]).toArray below meth c H locs 0 0 (xt_MQ below (va_Qv (fun (u : SI × SF) => Post u.1 u.2) (fun u t => va_P D vwCl (cw a cI cZ cQ u.1 u.2) t.heap) (xA 47 a s.heap.size)) (cXC D a cI cZ cQ PX s.heap.size) ([.ref (a 0), .int p1, .int p2, .int p3, .int p4, .int p5]).toArray s 2 12 (xA 47 a s.heap.size)) (F0 m 0 ls []) from hM s.heap [] hP va_S.rf
  clear hP
  intro H locs hP hS
  dsimp only [wp_CJ_start] at hw
  refine lv_aload_n hx hb dCJ_start_0 rfl (lv_at hl 0 rfl) ?_
  refine lv_iload_n hx hb dCJ_start_1 rfl (lv_at hl 1 rfl) ?_
  obtain ⟨P1, PX1, hc1, hx1, hw⟩ := hw
  refine cx_r (xt_runV (As := [.int p1]) (rest := []) ⟨hx, hb, hml, hown, hts⟩ (c_CJ_present l hlt D a cI cZ cQ hJ I F p1 H.size P1 PX1 hc1) (cwV 1 hts (tb_V (C := "CodeJudge") wc_CJ_present tw_2_103 tw_2_105 tw_0_1 tw_1_1) rfl rfl rfl (by decide +kernel) ⟨Nat.le_of_ble_eq_true rfl, Nat.le_of_ble_eq_true rfl⟩) ⟨cY_bl, va_recv hK hP rfl cw_0, cY_at hP hK hN hZ hX hS⟩ rfl rfl hl.1 rfl (lv_room (Nat.le_of_ble_eq_true rfl)) dCJ_start_2 ⟨Nat.le_of_ble_eq_true rfl, Nat.le_of_ble_eq_true rfl⟩) hS (fun k1 q1 I1 F1 H locs hP hp1 hS hO => xt_out (covers_of_empty (B.noHandlers hcd) _) hlocks hO (fun t ht => ⟨(I1, F1), hx1 k1 I1 F1 hp1, by subst ht; exact hP, hS.F ht⟩) hS.2.2 (Nat.le_of_ble_eq_true rfl) (Nat.le_of_ble_eq_true rfl)) (fun r1 I1 F1 H locs hr1 hP hp1 hS => ?_)
  have hw := hw r1 I1 F1 hp1
  refine lv_astore (lv' := [(6, .ref (a (23 + 3 * r1))), (0, .ref (a 0)), (1, .int p1), (2, .int p2), (3, .int p3), (4, .int p4), (5, .int p5)]) hx hb dCJ_start_5 hl (by decide) rfl (fun ls hl => ?_)
  refine lv_aload hx hb dCJ_start_7 (lv_at hl 0 rfl) ?_
  refine lv_iconst (v := 0) hx hb dCJ_start_9 (by decide) ?_
  refine lv_iload_n hx hb dCJ_start_10 rfl (lv_at hl 3 rfl) ?_
  obtain ⟨P2, hc2, hw⟩ := hw
  refine cc_i (va_runS (As := [.ref (a (23 + 3 * r1)), .int 0, .int p2]) (rest := []) ⟨hx, hb, hml, hown, hts⟩ (c_CJ_cellsFit l D a cI cZ cQ hJ I1 F1 r1 0 p2 hr1 H.size P2 hc2) (va_cwS 3 hts (tb_S wc_CJ_cellsFit tw_3_48 tw_3_49 tw_1_1) rfl rfl rfl (by decide +kernel) ⟨Nat.le_of_ble_eq_true rfl, Nat.le_of_ble_eq_true rfl⟩) ⟨cP_bl, cP_at hP hK hN⟩ rfl rfl hl.1 rfl (lv_room (Nat.le_of_ble_eq_true rfl)) dCJ_start_11 ⟨Nat.le_of_ble_eq_true rfl, Nat.le_of_ble_eq_true rfl⟩) hS (fun r2 I2 F2 H locs hP hp2 hS => ?_)
  have hw := hw r2 I2 F2 hp2
  refine lv_if_eq (tgt := 49) hx hb dCJ_start_14 (by decide) (fun h3 => ?_) (fun h3 => ?_)
  · have hw := hw.1 h3
    exact xt_throw (k := 2) (ik := 37) (ic := 39) (own := "CodeJudge") (cls := "java/lang/IllegalArgumentException") (names := ["java/lang/RuntimeException", "java/lang/Exception"]) (A := xA 47 a s.heap.size) hx hb hlt hown rfl (by decide +kernel) (by decide +kernel) (hts _ tw_2_72) (hts _ tw_1_14) (xw_hat (by decide) xw_2 hts hX) (xw_off xw_2) hZ hS (hl.1.trans hml.symm) dCJ_start_49 dCJ_start_52 dCJ_start_53 dCJ_start_56 (covers_of_empty (B.noHandlers hcd) _) hlocks (Nat.le_of_ble_eq_true rfl) (Nat.le_of_ble_eq_true rfl) (Nat.le_of_ble_eq_true rfl) (Nat.le_of_ble_eq_true rfl) (fun t h1 h2 => xt_px hP hS hw t h1 h2) hS.2.2 (Nat.le_of_ble_eq_true rfl) (Nat.le_of_ble_eq_true rfl)
  · have hw := hw.2 h3
    refine lv_aload hx hb dCJ_start_17 (lv_at hl 0 rfl) ?_
    refine lv_iconst (v := 1) hx hb dCJ_start_19 (by decide) ?_
    refine lv_iload_n hx hb dCJ_start_20 rfl (lv_at hl 4 rfl) ?_
    obtain ⟨P4, hc4, hw⟩ := hw
    refine cc_i (va_runS (As := [.ref (a (23 + 3 * r1)), .int 1, .int p3]) (rest := []) ⟨hx, hb, hml, hown, hts⟩ (c_CJ_cellsFit l D a cI cZ cQ hJ I2 F2 r1 1 p3 hr1 H.size P4 hc4) (va_cwS 3 hts (tb_S wc_CJ_cellsFit tw_3_48 tw_3_49 tw_1_1) rfl rfl rfl (by decide +kernel) ⟨Nat.le_of_ble_eq_true rfl, Nat.le_of_ble_eq_true rfl⟩) ⟨cP_bl, cP_at hP hK hN⟩ rfl rfl hl.1 rfl (lv_room (Nat.le_of_ble_eq_true rfl)) dCJ_start_21 ⟨Nat.le_of_ble_eq_true rfl, Nat.le_of_ble_eq_true rfl⟩) hS (fun r4 I4 F4 H locs hP hp4 hS => ?_)
    have hw := hw r4 I4 F4 hp4
    refine lv_if_eq (tgt := 49) hx hb dCJ_start_24 (by decide) (fun h5 => ?_) (fun h5 => ?_)
    · have hw := hw.1 h5
      exact xt_throw (k := 2) (ik := 37) (ic := 39) (own := "CodeJudge") (cls := "java/lang/IllegalArgumentException") (names := ["java/lang/RuntimeException", "java/lang/Exception"]) (A := xA 47 a s.heap.size) hx hb hlt hown rfl (by decide +kernel) (by decide +kernel) (hts _ tw_2_72) (hts _ tw_1_14) (xw_hat (by decide) xw_2 hts hX) (xw_off xw_2) hZ hS (hl.1.trans hml.symm) dCJ_start_49 dCJ_start_52 dCJ_start_53 dCJ_start_56 (covers_of_empty (B.noHandlers hcd) _) hlocks (Nat.le_of_ble_eq_true rfl) (Nat.le_of_ble_eq_true rfl) (Nat.le_of_ble_eq_true rfl) (Nat.le_of_ble_eq_true rfl) (fun t h1 h2 => xt_px hP hS hw t h1 h2) hS.2.2 (Nat.le_of_ble_eq_true rfl) (Nat.le_of_ble_eq_true rfl)
    · have hw := hw.2 h5
      refine lv_aload hx hb dCJ_start_27 (lv_at hl 0 rfl) ?_
      refine lv_iconst (v := 2) hx hb dCJ_start_29 (by decide) ?_
      refine lv_iload hx hb dCJ_start_30 (lv_at hl 5 rfl) ?_
      obtain ⟨P6, hc6, hw⟩ := hw
      refine cc_i (va_runS (As := [.ref (a (23 + 3 * r1)), .int 2, .int p4]) (rest := []) ⟨hx, hb, hml, hown, hts⟩ (c_CJ_cellsFit l D a cI cZ cQ hJ I4 F4 r1 2 p4 hr1 H.size P6 hc6) (va_cwS 3 hts (tb_S wc_CJ_cellsFit tw_3_48 tw_3_49 tw_1_1) rfl rfl rfl (by decide +kernel) ⟨Nat.le_of_ble_eq_true rfl, Nat.le_of_ble_eq_true rfl⟩) ⟨cP_bl, cP_at hP hK hN⟩ rfl rfl hl.1 rfl (lv_room (Nat.le_of_ble_eq_true rfl)) dCJ_start_32 ⟨Nat.le_of_ble_eq_true rfl, Nat.le_of_ble_eq_true rfl⟩) hS (fun r6 I6 F6 H locs hP hp6 hS => ?_)
      have hw := hw r6 I6 F6 hp6
      refine lv_if_eq (tgt := 49) hx hb dCJ_start_35 (by decide) (fun h7 => ?_) (fun h7 => ?_)
      · have hw := hw.1 h7
        exact xt_throw (k := 2) (ik := 37) (ic := 39) (own := "CodeJudge") (cls := "java/lang/IllegalArgumentException") (names := ["java/lang/RuntimeException", "java/lang/Exception"]) (A := xA 47 a s.heap.size) hx hb hlt hown rfl (by decide +kernel) (by decide +kernel) (hts _ tw_2_72) (hts _ tw_1_14) (xw_hat (by decide) xw_2 hts hX) (xw_off xw_2) hZ hS (hl.1.trans hml.symm) dCJ_start_49 dCJ_start_52 dCJ_start_53 dCJ_start_56 (covers_of_empty (B.noHandlers hcd) _) hlocks (Nat.le_of_ble_eq_true rfl) (Nat.le_of_ble_eq_true rfl) (Nat.le_of_ble_eq_true rfl) (Nat.le_of_ble_eq_true rfl) (fun t h1 h2 => xt_px hP hS hw t h1 h2) hS.2.2 (Nat.le_of_ble_eq_true rfl) (Nat.le_of_ble_eq_true rfl)
      · have hw := hw.2 h7
        refine lv_aload hx hb dCJ_start_38 (lv_at hl 0 rfl) ?_
        refine lv_iconst (v := 3) hx hb dCJ_start_40 (by decide) ?_
        refine lv_iload hx hb dCJ_start_41 (lv_at hl 6 rfl) ?_
        obtain ⟨P8, hc8, hw⟩ := hw
        refine cc_i (va_runS (As := [.ref (a (23 + 3 * r1)), .int 3, .int p5]) (rest := []) ⟨hx, hb, hml, hown, hts⟩ (c_CJ_cellsFit l D a cI cZ cQ hJ I6 F6 r1 3 p5 hr1 H.size P8 hc8) (va_cwS 3 hts (tb_S wc_CJ_cellsFit tw_3_48 tw_3_49 tw_1_1) rfl rfl rfl (by decide +kernel) ⟨Nat.le_of_ble_eq_true rfl, Nat.le_of_ble_eq_true rfl⟩) ⟨cP_bl, cP_at hP hK hN⟩ rfl rfl hl.1 rfl (lv_room (Nat.le_of_ble_eq_true rfl)) dCJ_start_43 ⟨Nat.le_of_ble_eq_true rfl, Nat.le_of_ble_eq_true rfl⟩) hS (fun r8 I8 F8 H locs hP hp8 hS => ?_)
        have hw := hw r8 I8 F8 hp8
        refine lv_if_ne (tgt := 57) hx hb dCJ_start_46 (by decide) (fun h9 => ?_) (fun h9 => ?_)
        · have hw := hw.1 h9
          refine lv_aload_n hx hb dCJ_start_57 rfl (lv_at hl 1 rfl) ?_
          refine lv_iload_n hx hb dCJ_start_58 rfl (lv_at hl 2 rfl) ?_
          obtain ⟨P10, hc10, hw⟩ := hw
          refine cc_i (va_runV (As := [.int p1]) (rest := []) ⟨hx, hb, hml, hown, hts⟩ (c_CJ_areGoodFrom l D a cI cZ cQ hJ I8 F8 p1 H.size P10 hc10) (cwV 1 hts (tb_V (C := "CodeJudge") wc_CJ_areGoodFrom tw_3_55 tw_3_57 tw_0_9 tw_1_1) rfl rfl rfl (by decide +kernel) ⟨Nat.le_of_ble_eq_true rfl, Nat.le_of_ble_eq_true rfl⟩) ⟨cP_bl, va_recv hK hP rfl cw_0, cP_at hP hK hN⟩ rfl rfl hl.1 rfl (lv_room (Nat.le_of_ble_eq_true rfl)) dCJ_start_59 ⟨Nat.le_of_ble_eq_true rfl, Nat.le_of_ble_eq_true rfl⟩) hS (fun r10 I10 F10 H locs hP hp10 hS => ?_)
          have hw := hw r10 I10 F10 hp10
          refine lv_if_ne (tgt := 73) hx hb dCJ_start_62 (by decide) (fun h11 => ?_) (fun h11 => ?_)
          · have hw := hw.1 h11
            refine lv_aload_n hx hb dCJ_start_73 rfl (lv_at hl 1 rfl) ?_
            refine va_get (D := D) (v := .ref (a 3)) (ci := 7) (C := "CodeJudge") (T := T_CJ) (N := 3) hx hb hts in_CJ hown hK hP 0 cw_0 rfl 2 (by decide) (hts (.fieldLink "CodeJudge" 26 "CodeJudge" "machine" "LCodeJudge$Machine;") tw_1_229) (fun _ h9 => h9) rfl dCJ_start_74 ?_
            refine lv_iload_n hx hb dCJ_start_77 rfl (lv_at hl 2 rfl) ?_
            obtain ⟨P12, hc12, hw⟩ := hw
            refine cc_v (va_runV (As := [.int p1]) (rest := []) ⟨hx, hb, hml, hown, hts⟩ (c_Ma_begin l D a cI cZ cQ hJ I10 F10 p1 H.size P12 hc12) (cwV 1 hts (tb_V (C := "CodeJudge$Machine") wc_Ma_begin tw_3_67 tw_3_68 tw_3_69 tw_1_5) rfl rfl rfl (by decide +kernel) ⟨Nat.le_of_ble_eq_true rfl, Nat.le_of_ble_eq_true rfl⟩) ⟨cP_bl, va_recv hK hP rfl cw_3, cP_at hP hK hN⟩ rfl rfl hl.1 rfl (lv_room (Nat.le_of_ble_eq_true rfl)) dCJ_start_78 ⟨Nat.le_of_ble_eq_true rfl, Nat.le_of_ble_eq_true rfl⟩) hS (fun I12 F12 H locs hP hp12 hS => ?_)
            have hw := hw I12 F12 hp12
            refine lv_aload_n hx hb dCJ_start_81 rfl (lv_at hl 1 rfl) ?_
            refine va_get (D := D) (v := .ref (a 3)) (ci := 7) (C := "CodeJudge") (T := T_CJ) (N := 3) hx hb hts in_CJ hown hK hP 0 cw_0 rfl 2 (by decide) (hts (.fieldLink "CodeJudge" 26 "CodeJudge" "machine" "LCodeJudge$Machine;") tw_1_229) (fun _ h9 => h9) rfl dCJ_start_82 ?_
            refine lv_aload hx hb dCJ_start_85 (lv_at hl 0 rfl) ?_
            refine lv_iconst (v := 0) hx hb dCJ_start_87 (by decide) ?_
            refine lv_iload_n hx hb dCJ_start_88 rfl (lv_at hl 3 rfl) ?_
            obtain ⟨P13, hc13, hw⟩ := hw
            refine cc_v (va_runV (As := [.ref (a (23 + 3 * r1)), .int 0, .int p2]) (rest := []) ⟨hx, hb, hml, hown, hts⟩ (c_Ma_give l D a cI cZ cQ hJ I12 F12 r1 0 p2 hr1 H.size P13 hc13) (cwV 3 hts (tb_V (C := "CodeJudge$Machine") wc_Ma_give tw_3_83 tw_3_84 tw_3_85 tw_1_5) rfl rfl rfl (by decide +kernel) ⟨Nat.le_of_ble_eq_true rfl, Nat.le_of_ble_eq_true rfl⟩) ⟨cP_bl, va_recv hK hP rfl cw_3, cP_at hP hK hN⟩ rfl rfl hl.1 rfl (lv_room (Nat.le_of_ble_eq_true rfl)) dCJ_start_89 ⟨Nat.le_of_ble_eq_true rfl, Nat.le_of_ble_eq_true rfl⟩) hS (fun I13 F13 H locs hP hp13 hS => ?_)
            have hw := hw I13 F13 hp13
            refine lv_aload_n hx hb dCJ_start_92 rfl (lv_at hl 1 rfl) ?_
            refine va_get (D := D) (v := .ref (a 3)) (ci := 7) (C := "CodeJudge") (T := T_CJ) (N := 3) hx hb hts in_CJ hown hK hP 0 cw_0 rfl 2 (by decide) (hts (.fieldLink "CodeJudge" 26 "CodeJudge" "machine" "LCodeJudge$Machine;") tw_1_229) (fun _ h9 => h9) rfl dCJ_start_93 ?_
            refine lv_aload hx hb dCJ_start_96 (lv_at hl 0 rfl) ?_
            refine lv_iconst (v := 1) hx hb dCJ_start_98 (by decide) ?_
            refine lv_iload_n hx hb dCJ_start_99 rfl (lv_at hl 4 rfl) ?_
            obtain ⟨P14, hc14, hw⟩ := hw
            refine cc_v (va_runV (As := [.ref (a (23 + 3 * r1)), .int 1, .int p3]) (rest := []) ⟨hx, hb, hml, hown, hts⟩ (c_Ma_give l D a cI cZ cQ hJ I13 F13 r1 1 p3 hr1 H.size P14 hc14) (cwV 3 hts (tb_V (C := "CodeJudge$Machine") wc_Ma_give tw_3_83 tw_3_84 tw_3_85 tw_1_5) rfl rfl rfl (by decide +kernel) ⟨Nat.le_of_ble_eq_true rfl, Nat.le_of_ble_eq_true rfl⟩) ⟨cP_bl, va_recv hK hP rfl cw_3, cP_at hP hK hN⟩ rfl rfl hl.1 rfl (lv_room (Nat.le_of_ble_eq_true rfl)) dCJ_start_100 ⟨Nat.le_of_ble_eq_true rfl, Nat.le_of_ble_eq_true rfl⟩) hS (fun I14 F14 H locs hP hp14 hS => ?_)
            have hw := hw I14 F14 hp14
            refine lv_aload_n hx hb dCJ_start_103 rfl (lv_at hl 1 rfl) ?_
            refine va_get (D := D) (v := .ref (a 3)) (ci := 7) (C := "CodeJudge") (T := T_CJ) (N := 3) hx hb hts in_CJ hown hK hP 0 cw_0 rfl 2 (by decide) (hts (.fieldLink "CodeJudge" 26 "CodeJudge" "machine" "LCodeJudge$Machine;") tw_1_229) (fun _ h9 => h9) rfl dCJ_start_104 ?_
            refine lv_aload hx hb dCJ_start_107 (lv_at hl 0 rfl) ?_
            refine lv_iconst (v := 2) hx hb dCJ_start_109 (by decide) ?_
            refine lv_iload hx hb dCJ_start_110 (lv_at hl 5 rfl) ?_
            obtain ⟨P15, hc15, hw⟩ := hw
            refine cc_v (va_runV (As := [.ref (a (23 + 3 * r1)), .int 2, .int p4]) (rest := []) ⟨hx, hb, hml, hown, hts⟩ (c_Ma_give l D a cI cZ cQ hJ I14 F14 r1 2 p4 hr1 H.size P15 hc15) (cwV 3 hts (tb_V (C := "CodeJudge$Machine") wc_Ma_give tw_3_83 tw_3_84 tw_3_85 tw_1_5) rfl rfl rfl (by decide +kernel) ⟨Nat.le_of_ble_eq_true rfl, Nat.le_of_ble_eq_true rfl⟩) ⟨cP_bl, va_recv hK hP rfl cw_3, cP_at hP hK hN⟩ rfl rfl hl.1 rfl (lv_room (Nat.le_of_ble_eq_true rfl)) dCJ_start_112 ⟨Nat.le_of_ble_eq_true rfl, Nat.le_of_ble_eq_true rfl⟩) hS (fun I15 F15 H locs hP hp15 hS => ?_)
            have hw := hw I15 F15 hp15
            refine lv_aload_n hx hb dCJ_start_115 rfl (lv_at hl 1 rfl) ?_
            refine va_get (D := D) (v := .ref (a 3)) (ci := 7) (C := "CodeJudge") (T := T_CJ) (N := 3) hx hb hts in_CJ hown hK hP 0 cw_0 rfl 2 (by decide) (hts (.fieldLink "CodeJudge" 26 "CodeJudge" "machine" "LCodeJudge$Machine;") tw_1_229) (fun _ h9 => h9) rfl dCJ_start_116 ?_
            refine lv_aload hx hb dCJ_start_119 (lv_at hl 0 rfl) ?_
            refine lv_iconst (v := 3) hx hb dCJ_start_121 (by decide) ?_
            refine lv_iload hx hb dCJ_start_122 (lv_at hl 6 rfl) ?_
            obtain ⟨P16, hc16, hw⟩ := hw
            refine cc_v (va_runV (As := [.ref (a (23 + 3 * r1)), .int 3, .int p5]) (rest := []) ⟨hx, hb, hml, hown, hts⟩ (c_Ma_give l D a cI cZ cQ hJ I15 F15 r1 3 p5 hr1 H.size P16 hc16) (cwV 3 hts (tb_V (C := "CodeJudge$Machine") wc_Ma_give tw_3_83 tw_3_84 tw_3_85 tw_1_5) rfl rfl rfl (by decide +kernel) ⟨Nat.le_of_ble_eq_true rfl, Nat.le_of_ble_eq_true rfl⟩) ⟨cP_bl, va_recv hK hP rfl cw_3, cP_at hP hK hN⟩ rfl rfl hl.1 rfl (lv_room (Nat.le_of_ble_eq_true rfl)) dCJ_start_124 ⟨Nat.le_of_ble_eq_true rfl, Nat.le_of_ble_eq_true rfl⟩) hS (fun I16 F16 H locs hP hp16 hS => ?_)
            have hw := hw I16 F16 hp16
            refine W.widen (k := 2) (n := 12) (Nat.le_of_ble_eq_true rfl) (Nat.le_of_ble_eq_true rfl) ?_
            exact xt_ret (W.vret hx hb hr (fun t ht hW => ⟨⟨(I16, F16), rfl, hw, by subst ht; exact hP⟩, hS.F ht⟩) hS.2.2 dCJ_start_127)
          · have hw := hw.2 h11
            exact xt_throw (k := 3) (ik := 61) (ic := 63) (own := "CodeJudge") (cls := "java/lang/IllegalStateException") (names := ["java/lang/RuntimeException", "java/lang/Exception"]) (A := xA 47 a s.heap.size) hx hb hlt hown rfl (by decide +kernel) (by decide +kernel) (hts _ tw_2_107) (hts _ tw_1_15) (xw_hat (by decide) xw_3 hts hX) (xw_off xw_3) hZ hS (hl.1.trans hml.symm) dCJ_start_65 dCJ_start_68 dCJ_start_69 dCJ_start_72 (covers_of_empty (B.noHandlers hcd) _) hlocks (Nat.le_of_ble_eq_true rfl) (Nat.le_of_ble_eq_true rfl) (Nat.le_of_ble_eq_true rfl) (Nat.le_of_ble_eq_true rfl) (fun t h1 h2 => xt_px hP hS hw t h1 h2) hS.2.2 (Nat.le_of_ble_eq_true rfl) (Nat.le_of_ble_eq_true rfl)
        · have hw := hw.2 h9
          exact xt_throw (k := 2) (ik := 37) (ic := 39) (own := "CodeJudge") (cls := "java/lang/IllegalArgumentException") (names := ["java/lang/RuntimeException", "java/lang/Exception"]) (A := xA 47 a s.heap.size) hx hb hlt hown rfl (by decide +kernel) (by decide +kernel) (hts _ tw_2_72) (hts _ tw_1_14) (xw_hat (by decide) xw_2 hts hX) (xw_off xw_2) hZ hS (hl.1.trans hml.symm) dCJ_start_49 dCJ_start_52 dCJ_start_53 dCJ_start_56 (covers_of_empty (B.noHandlers hcd) _) hlocks (Nat.le_of_ble_eq_true rfl) (Nat.le_of_ble_eq_true rfl) (Nat.le_of_ble_eq_true rfl) (Nat.le_of_ble_eq_true rfl) (fun t h1 h2 => xt_px hP hS hw t h1 h2) hS.2.2 (Nat.le_of_ble_eq_true rfl) (Nat.le_of_ble_eq_true rfl)
def wp_CJ_run (p1 : Int32) (I : SI) (F : SF) (Post : Int32 → SI → SF → Prop) (PX : Nat → SI → SF → Prop) : Prop := ∃ P1 : Int32 → SI → SF → Prop, wp_CJ_isBelow p1 2001 I F P1 ∧ ∀ r1 I1 F1, P1 r1 I1 F1 → ((¬ r1 = 0 → (∃ (P3 : SI → SF → Prop) (PX3 : Nat → SI → SF → Prop), wp_CJ_needRun I1 F1 P3 PX3 ∧ (∀ k I F, PX3 k I F → PX k I F) ∧ ∀ I3 F3, P3 I3 F3 → (∃ P4 : Int32 → SI → SF → Prop, wp_Ma_advance p1 I3 F3 P4 ∧ ∀ r4 I4 F4, P4 r4 I4 F4 → (Post r4 I4 F4)))) ∧ (r1 = 0 → (PX 2 I1 F1)))
set_option maxHeartbeats 4000000 in
set_option maxRecDepth 100000 in
theorem c_CJ_run (l : Launch) (hlt : l.stackTraces = false) (D : va_G) (a : Nat → Nat) (cI cZ cQ : ClassId) (hJ : xJ 47 a) (I : SI) (F : SF) (p1 : Int32) (sz : Nat) (Post : Int32 → SI → SF → Prop) (PX : Nat → SI → SF → Prop) (hw : wp_CJ_run p1 I F Post PX) : xt_Met l y_CJ_run (Cond.code y_CJ_run b_CJ_run 2 (some .int) :: TB) { frames := 7, cells := 1, slots := 6, locals := 160 } (va_Pc [.ref (a 0), .int p1] (cY D a cI cZ cQ I F sz)) (va_Qi (fun r (u : SI × SF) => Post r u.1 u.2) (fun u t => va_P D vwCl (cw a cI cZ cQ u.1 u.2) t.heap) (xA 47 a sz)) (cXC D a cI cZ cQ PX sz) 1 6 (xA 47 a sz) := by
  refine xt_ofW (cc := b_CJ_run) (maxL := 2) (ret := (some .int)) (by decide) rfl ?_
  intro p e s m args below meth c s₁ B hml hv
  obtain ⟨rfl, ⟨⟨rfl, hP, hK, hN⟩, hZ⟩, hX⟩ := hv
  have hx := B.exec
  have hb := B.bytes
  have hr := B.returns
  have hcd := atoms_spec (ws := Cond.code y_CJ_run b_CJ_run 2 (some .int) :: TB) B.pre _ List.mem_cons_self
  have hts : ∀ w ∈ TB, w.before _ s = true := fun w h => atoms_spec (ws := Cond.code y_CJ_run b_CJ_run 2 (some .int) :: TB) B.pre w (List.mem_cons_of_mem _ h)
  have hown : s.vm.findClass "CodeJudge" = some m.cls := findClass_of_methodNamed B.named
  have hlocks := B.notSynchronized
  have hl := lv_entry ([.ref (a 0), .int p1]) (n := 2) (Nat.le_of_ble_eq_true rfl)
  rw [lg_entry_eq]
  generalize (lg_sl ([.ref (a 0), .int p1]) ++ List.replicate (2 - (lg_sl ([.ref (a 0), .int p1])).length) Slot.unset).toArray = ls at hl ⊢
  have hl : lv_has ls 2 [(0, .ref (a 0)), (1, .int p1)] := hl
  suffices hM : ∀ (H : Heap) (locs : List Loc), va_P D vwCl (cw a cI cZ cQ I F) H → va_S (xA 47 a s.heap.size) s.heap H locs → W p l e (headSpec (Cond.code y_CJ_run b_CJ_run 2 (some .int) :: TB) { frames := 7, cells := 1, slots := 6, locals := 160 }).room s m ([.ref (a 0), .int p1]).toArray below meth c H locs 0 0 (xt_MQ below (va_Qi (fun r (u : SI × SF) => Post r u.1 u.2) (fun u t => va_P D vwCl (cw a cI cZ cQ u.1 u.2) t.heap) (xA 47 a s.heap.size)) (cXC D a cI cZ cQ PX s.heap.size) ([.ref (a 0), .int p1]).toArray s 1 6 (xA 47 a s.heap.size)) (F0 m 0 ls []) from hM s.heap [] hP va_S.rf
  clear hP
  intro H locs hP hS
  dsimp only [wp_CJ_run] at hw
  refine lv_iload_n hx hb dCJ_run_0 rfl (lv_at hl 1 rfl) ?_
  refine lv_sipush (v := 2001) hx hb dCJ_run_1 (by decide) ?_
  obtain ⟨P1, hc1, hw⟩ := hw
  refine cc_i (va_runS (As := [.int p1, .int 2001]) (rest := []) ⟨hx, hb, hml, hown, hts⟩ (c_CJ_isBelow l D a cI cZ cQ hJ I F p1 2001 H.size P1 hc1) (va_cwS 2 hts (tb_S wc_CJ_isBelow tw_2_6 tw_2_7 tw_1_1) rfl rfl rfl (by decide +kernel) ⟨Nat.le_of_ble_eq_true rfl, Nat.le_of_ble_eq_true rfl⟩) ⟨cP_bl, cP_at hP hK hN⟩ rfl rfl hl.1 rfl (lv_room (Nat.le_of_ble_eq_true rfl)) dCJ_run_4 ⟨Nat.le_of_ble_eq_true rfl, Nat.le_of_ble_eq_true rfl⟩) hS (fun r1 I1 F1 H locs hP hp1 hS => ?_)
  have hw := hw r1 I1 F1 hp1
  refine lv_if_ne (tgt := 18) hx hb dCJ_run_7 (by decide) (fun h2 => ?_) (fun h2 => ?_)
  · have hw := hw.1 h2
    refine lv_aload_n hx hb dCJ_run_18 rfl (lv_at hl 0 rfl) ?_
    obtain ⟨P3, PX3, hc3, hx3, hw⟩ := hw
    refine cx_v (xt_runV (As := []) (rest := []) ⟨hx, hb, hml, hown, hts⟩ (c_CJ_needRun l hlt D a cI cZ cQ hJ I1 F1 H.size P3 PX3 hc3) (cwV 0 hts (tb_V (C := "CodeJudge") wc_CJ_needRun tw_3_108 tw_3_110 tw_0_10 tw_1_1) rfl rfl rfl (by decide +kernel) ⟨Nat.le_of_ble_eq_true rfl, Nat.le_of_ble_eq_true rfl⟩) ⟨cY_bl, va_recv hK hP rfl cw_0, cY_at hP hK hN hZ hX hS⟩ rfl rfl hl.1 rfl (lv_room (Nat.le_of_ble_eq_true rfl)) dCJ_run_19 ⟨Nat.le_of_ble_eq_true rfl, Nat.le_of_ble_eq_true rfl⟩) hS (fun k3 q3 I3 F3 H locs hP hp3 hS hO => xt_out (covers_of_empty (B.noHandlers hcd) _) hlocks hO (fun t ht => ⟨(I3, F3), hx3 k3 I3 F3 hp3, by subst ht; exact hP, hS.F ht⟩) hS.2.2 (Nat.le_of_ble_eq_true rfl) (Nat.le_of_ble_eq_true rfl)) (fun I3 F3 H locs hP hp3 hS => ?_)
    have hw := hw I3 F3 hp3
    refine lv_aload_n hx hb dCJ_run_22 rfl (lv_at hl 0 rfl) ?_
    refine va_get (D := D) (v := .ref (a 3)) (ci := 7) (C := "CodeJudge") (T := T_CJ) (N := 3) hx hb hts in_CJ hown hK hP 0 cw_0 rfl 2 (by decide) (hts (.fieldLink "CodeJudge" 26 "CodeJudge" "machine" "LCodeJudge$Machine;") tw_1_229) (fun _ h9 => h9) rfl dCJ_run_23 ?_
    refine lv_aload_n hx hb dCJ_run_26 rfl (lv_at hl 0 rfl) ?_
    refine va_get (D := D) (v := .ref (a 1)) (ci := 7) (C := "CodeJudge") (T := T_CJ) (N := 3) hx hb hts in_CJ hown hK hP 0 cw_0 rfl 0 (by decide) (hts (.fieldLink "CodeJudge" 11 "CodeJudge" "methods" "[LCodeJudge$Method;") tw_1_227) (fun _ h9 => h9) rfl dCJ_run_27 ?_
    refine lv_iload_n hx hb dCJ_run_30 rfl (lv_at hl 1 rfl) ?_
    obtain ⟨P4, hc4, hw⟩ := hw
    refine cc_i (va_runV (As := [.ref (a 1), .int p1]) (rest := []) ⟨hx, hb, hml, hown, hts⟩ (c_Ma_advance l D a cI cZ cQ hJ I3 F3 p1 H.size P4 hc4) (cwV 2 hts (tb_V (C := "CodeJudge$Machine") wc_Ma_advance tw_3_112 tw_3_113 tw_3_114 tw_1_5) rfl rfl rfl (by decide +kernel) ⟨Nat.le_of_ble_eq_true rfl, Nat.le_of_ble_eq_true rfl⟩) ⟨cP_bl, va_recv hK hP rfl cw_3, cP_at hP hK hN⟩ rfl rfl hl.1 rfl (lv_room (Nat.le_of_ble_eq_true rfl)) dCJ_run_31 ⟨Nat.le_of_ble_eq_true rfl, Nat.le_of_ble_eq_true rfl⟩) hS (fun r4 I4 F4 H locs hP hp4 hS => ?_)
    have hw := hw r4 I4 F4 hp4
    refine W.widen (k := 1) (n := 6) (Nat.le_of_ble_eq_true rfl) (Nat.le_of_ble_eq_true rfl) ?_
    exact xt_ret (W.iret (v := r4) hx hb hr (fun t ht hW => ⟨⟨r4, (I4, F4), rfl, hw, by subst ht; exact hP⟩, hS.F ht⟩) hS.2.2 dCJ_run_34)
  · have hw := hw.2 h2
    exact xt_throw (k := 2) (ik := 37) (ic := 39) (own := "CodeJudge") (cls := "java/lang/IllegalArgumentException") (names := ["java/lang/RuntimeException", "java/lang/Exception"]) (A := xA 47 a s.heap.size) hx hb hlt hown rfl (by decide +kernel) (by decide +kernel) (hts _ tw_2_72) (hts _ tw_1_14) (xw_hat (by decide) xw_2 hts hX) (xw_off xw_2) hZ hS (hl.1.trans hml.symm) dCJ_run_10 dCJ_run_13 dCJ_run_14 dCJ_run_17 (covers_of_empty (B.noHandlers hcd) _) hlocks (Nat.le_of_ble_eq_true rfl) (Nat.le_of_ble_eq_true rfl) (Nat.le_of_ble_eq_true rfl) (Nat.le_of_ble_eq_true rfl) (fun t h1 h2 => xt_px hP hS hw t h1 h2) hS.2.2 (Nat.le_of_ble_eq_true rfl) (Nat.le_of_ble_eq_true rfl)
def wp_CJ_state (p1 : Int32) (I : SI) (F : SF) (Post : Int32 → SI → SF → Prop) (PX : Nat → SI → SF → Prop) : Prop := ∃ P1 : Int32 → SI → SF → Prop, wp_CJ_isBelow p1 9 I F P1 ∧ ∀ r1 I1 F1, P1 r1 I1 F1 → ((¬ r1 = 0 → (∃ (P3 : SI → SF → Prop) (PX3 : Nat → SI → SF → Prop), wp_CJ_needRun I1 F1 P3 PX3 ∧ (∀ k I F, PX3 k I F → PX k I F) ∧ ∀ I3 F3, P3 I3 F3 → (∃ P4 : Int32 → SI → SF → Prop, wp_Ma_tell p1 I3 F3 P4 ∧ ∀ r4 I4 F4, P4 r4 I4 F4 → (Post r4 I4 F4)))) ∧ (r1 = 0 → (PX 2 I1 F1)))
set_option maxHeartbeats 4000000 in
set_option maxRecDepth 100000 in
theorem c_CJ_state (l : Launch) (hlt : l.stackTraces = false) (D : va_G) (a : Nat → Nat) (cI cZ cQ : ClassId) (hJ : xJ 47 a) (I : SI) (F : SF) (p1 : Int32) (sz : Nat) (Post : Int32 → SI → SF → Prop) (PX : Nat → SI → SF → Prop) (hw : wp_CJ_state p1 I F Post PX) : xt_Met l y_CJ_state (Cond.code y_CJ_state b_CJ_state 2 (some .int) :: TB) { frames := 7, cells := 1, slots := 6, locals := 116 } (va_Pc [.ref (a 0), .int p1] (cY D a cI cZ cQ I F sz)) (va_Qi (fun r (u : SI × SF) => Post r u.1 u.2) (fun u t => va_P D vwCl (cw a cI cZ cQ u.1 u.2) t.heap) (xA 47 a sz)) (cXC D a cI cZ cQ PX sz) 1 6 (xA 47 a sz) := by
  refine xt_ofW (cc := b_CJ_state) (maxL := 2) (ret := (some .int)) (by decide) rfl ?_
  intro p e s m args below meth c s₁ B hml hv
  obtain ⟨rfl, ⟨⟨rfl, hP, hK, hN⟩, hZ⟩, hX⟩ := hv
  have hx := B.exec
  have hb := B.bytes
  have hr := B.returns
  have hcd := atoms_spec (ws := Cond.code y_CJ_state b_CJ_state 2 (some .int) :: TB) B.pre _ List.mem_cons_self
  have hts : ∀ w ∈ TB, w.before _ s = true := fun w h => atoms_spec (ws := Cond.code y_CJ_state b_CJ_state 2 (some .int) :: TB) B.pre w (List.mem_cons_of_mem _ h)
  have hown : s.vm.findClass "CodeJudge" = some m.cls := findClass_of_methodNamed B.named
  have hlocks := B.notSynchronized
  have hl := lv_entry ([.ref (a 0), .int p1]) (n := 2) (Nat.le_of_ble_eq_true rfl)
  rw [lg_entry_eq]
  generalize (lg_sl ([.ref (a 0), .int p1]) ++ List.replicate (2 - (lg_sl ([.ref (a 0), .int p1])).length) Slot.unset).toArray = ls at hl ⊢
  have hl : lv_has ls 2 [(0, .ref (a 0)), (1, .int p1)] := hl
  suffices hM : ∀ (H : Heap) (locs : List Loc), va_P D vwCl (cw a cI cZ cQ I F) H → va_S (xA 47 a s.heap.size) s.heap H locs → W p l e (headSpec (Cond.code y_CJ_state b_CJ_state 2 (some .int) :: TB) { frames := 7, cells := 1, slots := 6, locals := 116 }).room s m ([.ref (a 0), .int p1]).toArray below meth c H locs 0 0 (xt_MQ below (va_Qi (fun r (u : SI × SF) => Post r u.1 u.2) (fun u t => va_P D vwCl (cw a cI cZ cQ u.1 u.2) t.heap) (xA 47 a s.heap.size)) (cXC D a cI cZ cQ PX s.heap.size) ([.ref (a 0), .int p1]).toArray s 1 6 (xA 47 a s.heap.size)) (F0 m 0 ls []) from hM s.heap [] hP va_S.rf
  clear hP
  intro H locs hP hS
  dsimp only [wp_CJ_state] at hw
  refine lv_iload_n hx hb dCJ_state_0 rfl (lv_at hl 1 rfl) ?_
  refine lv_bipush (v := 9) hx hb dCJ_state_1 (by decide) ?_
  obtain ⟨P1, hc1, hw⟩ := hw
  refine cc_i (va_runS (As := [.int p1, .int 9]) (rest := []) ⟨hx, hb, hml, hown, hts⟩ (c_CJ_isBelow l D a cI cZ cQ hJ I F p1 9 H.size P1 hc1) (va_cwS 2 hts (tb_S wc_CJ_isBelow tw_2_6 tw_2_7 tw_1_1) rfl rfl rfl (by decide +kernel) ⟨Nat.le_of_ble_eq_true rfl, Nat.le_of_ble_eq_true rfl⟩) ⟨cP_bl, cP_at hP hK hN⟩ rfl rfl hl.1 rfl (lv_room (Nat.le_of_ble_eq_true rfl)) dCJ_state_3 ⟨Nat.le_of_ble_eq_true rfl, Nat.le_of_ble_eq_true rfl⟩) hS (fun r1 I1 F1 H locs hP hp1 hS => ?_)
  have hw := hw r1 I1 F1 hp1
  refine lv_if_ne (tgt := 17) hx hb dCJ_state_6 (by decide) (fun h2 => ?_) (fun h2 => ?_)
  · have hw := hw.1 h2
    refine lv_aload_n hx hb dCJ_state_17 rfl (lv_at hl 0 rfl) ?_
    obtain ⟨P3, PX3, hc3, hx3, hw⟩ := hw
    refine cx_v (xt_runV (As := []) (rest := []) ⟨hx, hb, hml, hown, hts⟩ (c_CJ_needRun l hlt D a cI cZ cQ hJ I1 F1 H.size P3 PX3 hc3) (cwV 0 hts (tb_V (C := "CodeJudge") wc_CJ_needRun tw_3_108 tw_3_110 tw_0_10 tw_1_1) rfl rfl rfl (by decide +kernel) ⟨Nat.le_of_ble_eq_true rfl, Nat.le_of_ble_eq_true rfl⟩) ⟨cY_bl, va_recv hK hP rfl cw_0, cY_at hP hK hN hZ hX hS⟩ rfl rfl hl.1 rfl (lv_room (Nat.le_of_ble_eq_true rfl)) dCJ_state_18 ⟨Nat.le_of_ble_eq_true rfl, Nat.le_of_ble_eq_true rfl⟩) hS (fun k3 q3 I3 F3 H locs hP hp3 hS hO => xt_out (covers_of_empty (B.noHandlers hcd) _) hlocks hO (fun t ht => ⟨(I3, F3), hx3 k3 I3 F3 hp3, by subst ht; exact hP, hS.F ht⟩) hS.2.2 (Nat.le_of_ble_eq_true rfl) (Nat.le_of_ble_eq_true rfl)) (fun I3 F3 H locs hP hp3 hS => ?_)
    have hw := hw I3 F3 hp3
    refine lv_aload_n hx hb dCJ_state_21 rfl (lv_at hl 0 rfl) ?_
    refine va_get (D := D) (v := .ref (a 3)) (ci := 7) (C := "CodeJudge") (T := T_CJ) (N := 3) hx hb hts in_CJ hown hK hP 0 cw_0 rfl 2 (by decide) (hts (.fieldLink "CodeJudge" 26 "CodeJudge" "machine" "LCodeJudge$Machine;") tw_1_229) (fun _ h9 => h9) rfl dCJ_state_22 ?_
    refine lv_iload_n hx hb dCJ_state_25 rfl (lv_at hl 1 rfl) ?_
    obtain ⟨P4, hc4, hw⟩ := hw
    refine cc_i (va_runV (As := [.int p1]) (rest := []) ⟨hx, hb, hml, hown, hts⟩ (c_Ma_tell l D a cI cZ cQ hJ I3 F3 p1 H.size P4 hc4) (cwV 1 hts (tb_V (C := "CodeJudge$Machine") wc_Ma_tell tw_4_6 tw_4_7 tw_4_8 tw_1_5) rfl rfl rfl (by decide +kernel) ⟨Nat.le_of_ble_eq_true rfl, Nat.le_of_ble_eq_true rfl⟩) ⟨cP_bl, va_recv hK hP rfl cw_3, cP_at hP hK hN⟩ rfl rfl hl.1 rfl (lv_room (Nat.le_of_ble_eq_true rfl)) dCJ_state_26 ⟨Nat.le_of_ble_eq_true rfl, Nat.le_of_ble_eq_true rfl⟩) hS (fun r4 I4 F4 H locs hP hp4 hS => ?_)
    have hw := hw r4 I4 F4 hp4
    refine W.widen (k := 1) (n := 6) (Nat.le_of_ble_eq_true rfl) (Nat.le_of_ble_eq_true rfl) ?_
    exact xt_ret (W.iret (v := r4) hx hb hr (fun t ht hW => ⟨⟨r4, (I4, F4), rfl, hw, by subst ht; exact hP⟩, hS.F ht⟩) hS.2.2 dCJ_state_29)
  · have hw := hw.2 h2
    exact xt_throw (k := 2) (ik := 37) (ic := 39) (own := "CodeJudge") (cls := "java/lang/IllegalArgumentException") (names := ["java/lang/RuntimeException", "java/lang/Exception"]) (A := xA 47 a s.heap.size) hx hb hlt hown rfl (by decide +kernel) (by decide +kernel) (hts _ tw_2_72) (hts _ tw_1_14) (xw_hat (by decide) xw_2 hts hX) (xw_off xw_2) hZ hS (hl.1.trans hml.symm) dCJ_state_9 dCJ_state_12 dCJ_state_13 dCJ_state_16 (covers_of_empty (B.noHandlers hcd) _) hlocks (Nat.le_of_ble_eq_true rfl) (Nat.le_of_ble_eq_true rfl) (Nat.le_of_ble_eq_true rfl) (Nat.le_of_ble_eq_true rfl) (fun t h1 h2 => xt_px hP hS hw t h1 h2) hS.2.2 (Nat.le_of_ble_eq_true rfl) (Nat.le_of_ble_eq_true rfl)
def wp_CJ_value_60 (Post : Int32 → SI → SF → Prop) (PX : Nat → SI → SF → Prop) (x1 : Int32) (x2 : Int32) (I : SI) (F : SF) : Prop := (¬ x1 = 1 → (PX 1 I F)) ∧ (x1 = 1 → (∃ P5 : Int32 → SI → SF → Prop, wp_Fr_upperMethod I F P5 ∧ ∀ r5 I5 F5, P5 r5 I5 F5 → (vp_in r5 8 ∧ (∃ P7 : Int32 → SI → SF → Prop, wp_CJ_isBelow x2 (I5 (24 + 10 * r5.toNatClampNeg)) I5 F5 P7 ∧ ∀ r7 I7 F7, P7 r7 I7 F7 → ((r7 = 0 → (PX 1 I7 F7)) ∧ (¬ r7 = 0 → (∃ P9 : Int32 → SI → SF → Prop, wp_Fr_inLocal x2 I7 F7 P9 ∧ ∀ r9 I9 F9, P9 r9 I9 F9 → (Post r9 I9 F9))))))))
def wp_CJ_value (p1 : Int32) (p2 : Int32) (I : SI) (F : SF) (Post : Int32 → SI → SF → Prop) (PX : Nat → SI → SF → Prop) : Prop := ((I 1) = 0 → (PX 1 I F)) ∧ (¬ (I 1) = 0 → ((¬ (I 9) = 0 → ((¬ p1 = 0 → (wp_CJ_value_60 Post PX p1 p2 I F)) ∧ (p1 = 0 → (∃ P10 : Int32 → SI → SF → Prop, wp_Fr_upperHeight I F P10 ∧ ∀ r10 I10 F10, P10 r10 I10 F10 → (∃ P11 : Int32 → SI → SF → Prop, wp_CJ_isBelow p2 r10 I10 F10 P11 ∧ ∀ r11 I11 F11, P11 r11 I11 F11 → ((r11 = 0 → (wp_CJ_value_60 Post PX p1 p2 I11 F11)) ∧ (¬ r11 = 0 → (∃ P13 : Int32 → SI → SF → Prop, wp_Fr_onStack p2 I11 F11 P13 ∧ ∀ r13 I13 F13, P13 r13 I13 F13 → (Post r13 I13 F13))))))))) ∧ ((I 9) = 0 → (PX 1 I F))))
set_option maxHeartbeats 4000000 in
set_option maxRecDepth 100000 in
theorem c_CJ_value (l : Launch) (hlt : l.stackTraces = false) (D : va_G) (a : Nat → Nat) (cI cZ cQ : ClassId) (hJ : xJ 47 a) (I : SI) (F : SF) (p1 : Int32) (p2 : Int32) (sz : Nat) (Post : Int32 → SI → SF → Prop) (PX : Nat → SI → SF → Prop) (hw : wp_CJ_value p1 p2 I F Post PX) : xt_Met l y_CJ_value (Cond.code y_CJ_value b_CJ_value 4 (some .int) :: TB) { frames := 6, cells := 1, slots := 6, locals := 96 } (va_Pc [.ref (a 0), .int p1, .int p2] (cY D a cI cZ cQ I F sz)) (va_Qi (fun r (u : SI × SF) => Post r u.1 u.2) (fun u t => va_P D vwCl (cw a cI cZ cQ u.1 u.2) t.heap) (xA 47 a sz)) (cXC D a cI cZ cQ PX sz) 1 6 (xA 47 a sz) := by
  refine xt_ofW (cc := b_CJ_value) (maxL := 4) (ret := (some .int)) (by decide) rfl ?_
  intro p e s m args below meth c s₁ B hml hv
  obtain ⟨rfl, ⟨⟨rfl, hP, hK, hN⟩, hZ⟩, hX⟩ := hv
  have hx := B.exec
  have hb := B.bytes
  have hr := B.returns
  have hcd := atoms_spec (ws := Cond.code y_CJ_value b_CJ_value 4 (some .int) :: TB) B.pre _ List.mem_cons_self
  have hts : ∀ w ∈ TB, w.before _ s = true := fun w h => atoms_spec (ws := Cond.code y_CJ_value b_CJ_value 4 (some .int) :: TB) B.pre w (List.mem_cons_of_mem _ h)
  have hown : s.vm.findClass "CodeJudge" = some m.cls := findClass_of_methodNamed B.named
  have hlocks := B.notSynchronized
  have hl := lv_entry ([.ref (a 0), .int p1, .int p2]) (n := 4) (Nat.le_of_ble_eq_true rfl)
  rw [lg_entry_eq]
  generalize (lg_sl ([.ref (a 0), .int p1, .int p2]) ++ List.replicate (4 - (lg_sl ([.ref (a 0), .int p1, .int p2])).length) Slot.unset).toArray = ls at hl ⊢
  have hl : lv_has ls 4 [(0, .ref (a 0)), (1, .int p1), (2, .int p2)] := hl
  obtain ⟨Q, hQ⟩ : ∃ Q, Q = xt_MQ below (va_Qi (fun r (u : SI × SF) => Post r u.1 u.2) (fun u t => va_P D vwCl (cw a cI cZ cQ u.1 u.2) t.heap) (xA 47 a s.heap.size)) (cXC D a cI cZ cQ PX s.heap.size) ([.ref (a 0), .int p1, .int p2]).toArray s 1 6 (xA 47 a s.heap.size) := ⟨_, rfl⟩
  rw [← hQ]
  have J60 : ∀ (x1 : Int32) (x2 : Int32) (I : SI) (F : SF) (H : Heap) (locs : List Loc) (ls : Array Slot), lv_has ls 4 [(0, .ref (a 0)), (1, .int x1), (2, .int x2), (3, .ref (a 11))] → va_P D vwCl (cw a cI cZ cQ I F) H → va_S (xA 47 a s.heap.size) s.heap H locs → wp_CJ_value_60 Post PX x1 x2 I F → W p l e (headSpec (Cond.code y_CJ_value b_CJ_value 4 (some .int) :: TB) { frames := 6, cells := 1, slots := 6, locals := 96 }).room s m ([.ref (a 0), .int p1, .int p2]).toArray below meth c H locs 0 0 Q (F0 m 60 ls []) := by
    intro x1 x2 I F H locs ls hl hP hS hw
    dsimp only [wp_CJ_value_60] at hw
    refine lv_iload_n hx hb dCJ_value_60 rfl (lv_at hl 1 rfl) ?_
    refine lv_iconst (v := 1) hx hb dCJ_value_61 (by decide) ?_
    refine lv_icmp_ne (tgt := 90) hx hb dCJ_value_62 (by decide) (fun h4 => ?_) (fun h4 => ?_)
    · have hw := hw.1 h4
      rw [hQ]
      exact xt_throw (k := 1) (ik := 34) (ic := 36) (own := "CodeJudge") (cls := "java/util/NoSuchElementException") (names := ["java/lang/RuntimeException", "java/lang/Exception"]) (A := xA 47 a s.heap.size) hx hb hlt hown rfl (by decide +kernel) (by decide +kernel) (hts _ tw_2_9) (hts _ tw_1_13) (xw_hat (by decide) xw_1 hts hX) (xw_off xw_1) hZ hS (hl.1.trans hml.symm) dCJ_value_90 dCJ_value_93 dCJ_value_94 dCJ_value_97 (covers_of_empty (B.noHandlers hcd) _) hlocks (Nat.le_of_ble_eq_true rfl) (Nat.le_of_ble_eq_true rfl) (Nat.le_of_ble_eq_true rfl) (Nat.le_of_ble_eq_true rfl) (fun t h1 h2 => xt_px hP hS hw t h1 h2) hS.2.2 (Nat.le_of_ble_eq_true rfl) (Nat.le_of_ble_eq_true rfl)
    · have hw := hw.2 h4
      refine lv_iload_n hx hb dCJ_value_65 rfl (lv_at hl 2 rfl) ?_
      refine lv_aload_n hx hb dCJ_value_66 rfl (lv_at hl 0 rfl) ?_
      refine va_get (D := D) (v := .ref (a 1)) (ci := 7) (C := "CodeJudge") (T := T_CJ) (N := 3) hx hb hts in_CJ hown hK hP 0 cw_0 rfl 0 (by decide) (hts (.fieldLink "CodeJudge" 11 "CodeJudge" "methods" "[LCodeJudge$Method;") tw_1_227) (fun _ h9 => h9) rfl dCJ_value_67 ?_
      refine lv_aload_n hx hb dCJ_value_70 rfl (lv_at hl 3 rfl) ?_
      obtain ⟨P5, hc5, hw⟩ := hw
      refine cc_i (va_runV (As := []) (rest := [.ref (a 1), .int x2]) ⟨hx, hb, hml, hown, hts⟩ (c_Fr_upperMethod l D a cI cZ cQ hJ I F H.size P5 hc5) (cwV 0 hts (tb_V (C := "CodeJudge$Frames") wc_Fr_upperMethod tw_4_19 tw_3_121 tw_3_122 tw_1_6) rfl rfl rfl (by decide +kernel) ⟨Nat.le_of_ble_eq_true rfl, Nat.le_of_ble_eq_true rfl⟩) ⟨cP_bl, va_recv hK hP rfl cw_11, cP_at hP hK hN⟩ rfl rfl hl.1 rfl (lv_room (Nat.le_of_ble_eq_true rfl)) dCJ_value_71 ⟨Nat.le_of_ble_eq_true rfl, Nat.le_of_ble_eq_true rfl⟩) hS (fun r5 I5 F5 H locs hP hp5 hS => ?_)
      have hw := hw r5 I5 F5 hp5
      obtain ⟨h6, hw⟩ := hw
      refine va_aldq hx hb hK hP 1 2 cw_1 rfl h6 dCJ_value_74 ?_
      have kh6 := vin_lt h6
      refine va_get (D := D) (v := .int (I5 (24 + 10 * r5.toNatClampNeg))) (ci := 4) (C := "CodeJudge$Method") (T := T_Me) (N := 9) hx hb hts in_Me hown hK hP (23 + 3 * r5.toNatClampNeg) (cw_M kh6) rfl 4 (by decide) (hts (.fieldLink "CodeJudge" 93 "CodeJudge$Method" "locals" "I") tw_1_47) (fun _ h9 => h9) rfl dCJ_value_75 ?_
      obtain ⟨P7, hc7, hw⟩ := hw
      refine cc_i (va_runS (As := [.int x2, .int (I5 (24 + 10 * r5.toNatClampNeg))]) (rest := []) ⟨hx, hb, hml, hown, hts⟩ (c_CJ_isBelow l D a cI cZ cQ hJ I5 F5 x2 (I5 (24 + 10 * r5.toNatClampNeg)) H.size P7 hc7) (va_cwS 2 hts (tb_S wc_CJ_isBelow tw_2_6 tw_2_7 tw_1_1) rfl rfl rfl (by decide +kernel) ⟨Nat.le_of_ble_eq_true rfl, Nat.le_of_ble_eq_true rfl⟩) ⟨cP_bl, cP_at hP hK hN⟩ rfl rfl hl.1 rfl (lv_room (Nat.le_of_ble_eq_true rfl)) dCJ_value_78 ⟨Nat.le_of_ble_eq_true rfl, Nat.le_of_ble_eq_true rfl⟩) hS (fun r7 I7 F7 H locs hP hp7 hS => ?_)
      have hw := hw r7 I7 F7 hp7
      refine lv_if_eq (tgt := 90) hx hb dCJ_value_81 (by decide) (fun h8 => ?_) (fun h8 => ?_)
      · have hw := hw.1 h8
        rw [hQ]
        exact xt_throw (k := 1) (ik := 34) (ic := 36) (own := "CodeJudge") (cls := "java/util/NoSuchElementException") (names := ["java/lang/RuntimeException", "java/lang/Exception"]) (A := xA 47 a s.heap.size) hx hb hlt hown rfl (by decide +kernel) (by decide +kernel) (hts _ tw_2_9) (hts _ tw_1_13) (xw_hat (by decide) xw_1 hts hX) (xw_off xw_1) hZ hS (hl.1.trans hml.symm) dCJ_value_90 dCJ_value_93 dCJ_value_94 dCJ_value_97 (covers_of_empty (B.noHandlers hcd) _) hlocks (Nat.le_of_ble_eq_true rfl) (Nat.le_of_ble_eq_true rfl) (Nat.le_of_ble_eq_true rfl) (Nat.le_of_ble_eq_true rfl) (fun t h1 h2 => xt_px hP hS hw t h1 h2) hS.2.2 (Nat.le_of_ble_eq_true rfl) (Nat.le_of_ble_eq_true rfl)
      · have hw := hw.2 h8
        refine lv_aload_n hx hb dCJ_value_84 rfl (lv_at hl 3 rfl) ?_
        refine lv_iload_n hx hb dCJ_value_85 rfl (lv_at hl 2 rfl) ?_
        obtain ⟨P9, hc9, hw⟩ := hw
        refine cc_i (va_runV (As := [.int x2]) (rest := []) ⟨hx, hb, hml, hown, hts⟩ (c_Fr_inLocal l D a cI cZ cQ hJ I7 F7 x2 H.size P9 hc9) (cwV 1 hts (tb_V (C := "CodeJudge$Frames") wc_Fr_inLocal tw_4_20 tw_3_225 tw_3_226 tw_1_6) rfl rfl rfl (by decide +kernel) ⟨Nat.le_of_ble_eq_true rfl, Nat.le_of_ble_eq_true rfl⟩) ⟨cP_bl, va_recv hK hP rfl cw_11, cP_at hP hK hN⟩ rfl rfl hl.1 rfl (lv_room (Nat.le_of_ble_eq_true rfl)) dCJ_value_86 ⟨Nat.le_of_ble_eq_true rfl, Nat.le_of_ble_eq_true rfl⟩) hS (fun r9 I9 F9 H locs hP hp9 hS => ?_)
        have hw := hw r9 I9 F9 hp9
        rw [hQ]
        refine W.widen (k := 1) (n := 6) (Nat.le_of_ble_eq_true rfl) (Nat.le_of_ble_eq_true rfl) ?_
        exact xt_ret (W.iret (v := r9) hx hb hr (fun t ht hW => ⟨⟨r9, (I9, F9), rfl, hw, by subst ht; exact hP⟩, hS.F ht⟩) hS.2.2 dCJ_value_89)
  suffices hM : ∀ (H : Heap) (locs : List Loc), va_P D vwCl (cw a cI cZ cQ I F) H → va_S (xA 47 a s.heap.size) s.heap H locs → W p l e (headSpec (Cond.code y_CJ_value b_CJ_value 4 (some .int) :: TB) { frames := 6, cells := 1, slots := 6, locals := 96 }).room s m ([.ref (a 0), .int p1, .int p2]).toArray below meth c H locs 0 0 (Q) (F0 m 0 ls []) from hM s.heap [] hP va_S.rf
  clear hP
  intro H locs hP hS
  dsimp only [wp_CJ_value] at hw
  refine lv_aload_n hx hb dCJ_value_0 rfl (lv_at hl 0 rfl) ?_
  refine va_get (D := D) (v := .ref (a 3)) (ci := 7) (C := "CodeJudge") (T := T_CJ) (N := 3) hx hb hts in_CJ hown hK hP 0 cw_0 rfl 2 (by decide) (hts (.fieldLink "CodeJudge" 26 "CodeJudge" "machine" "LCodeJudge$Machine;") tw_1_229) (fun _ h9 => h9) rfl dCJ_value_1 ?_
  refine va_get (D := D) (v := .int (I 1)) (ci := 3) (C := "CodeJudge$Machine") (T := T_Ma) (N := 7) hx hb hts in_Ma hown hK hP 3 cw_3 rfl 0 (by decide) (hts (.fieldLink "CodeJudge" 128 "CodeJudge$Machine" "there" "Z") tw_1_202) (fun _ h9 => h9) rfl dCJ_value_4 ?_
  refine lv_if_eq (tgt := 23) hx hb dCJ_value_7 (by decide) (fun h1 => ?_) (fun h1 => ?_)
  · have hw := hw.1 h1
    rw [hQ]
    exact xt_throw (k := 1) (ik := 34) (ic := 36) (own := "CodeJudge") (cls := "java/util/NoSuchElementException") (names := ["java/lang/RuntimeException", "java/lang/Exception"]) (A := xA 47 a s.heap.size) hx hb hlt hown rfl (by decide +kernel) (by decide +kernel) (hts _ tw_2_9) (hts _ tw_1_13) (xw_hat (by decide) xw_1 hts hX) (xw_off xw_1) hZ hS (hl.1.trans hml.symm) dCJ_value_23 dCJ_value_26 dCJ_value_27 dCJ_value_30 (covers_of_empty (B.noHandlers hcd) _) hlocks (Nat.le_of_ble_eq_true rfl) (Nat.le_of_ble_eq_true rfl) (Nat.le_of_ble_eq_true rfl) (Nat.le_of_ble_eq_true rfl) (fun t h1 h2 => xt_px hP hS hw t h1 h2) hS.2.2 (Nat.le_of_ble_eq_true rfl) (Nat.le_of_ble_eq_true rfl)
  · have hw := hw.2 h1
    refine lv_aload_n hx hb dCJ_value_10 rfl (lv_at hl 0 rfl) ?_
    refine va_get (D := D) (v := .ref (a 3)) (ci := 7) (C := "CodeJudge") (T := T_CJ) (N := 3) hx hb hts in_CJ hown hK hP 0 cw_0 rfl 2 (by decide) (hts (.fieldLink "CodeJudge" 26 "CodeJudge" "machine" "LCodeJudge$Machine;") tw_1_229) (fun _ h9 => h9) rfl dCJ_value_11 ?_
    refine va_get (D := D) (v := .ref (a 11)) (ci := 3) (C := "CodeJudge$Machine") (T := T_Ma) (N := 7) hx hb hts in_Ma hown hK hP 3 cw_3 rfl 1 (by decide) (hts (.fieldLink "CodeJudge" 129 "CodeJudge$Machine" "frames" "LCodeJudge$Frames;") tw_1_204) (fun _ h9 => h9) rfl dCJ_value_14 ?_
    refine va_get (D := D) (v := .int (I 9)) (ci := 0) (C := "CodeJudge$Frames") (T := T_Fr) (N := 6) hx hb hts in_Fr hown hK hP 11 cw_11 rfl 0 (by decide) (hts (.fieldLink "CodeJudge" 133 "CodeJudge$Frames" "open" "I") tw_1_144) (fun _ h9 => h9) rfl dCJ_value_17 ?_
    refine lv_if_ne (tgt := 31) hx hb dCJ_value_20 (by decide) (fun h2 => ?_) (fun h2 => ?_)
    · have hw := hw.1 h2
      refine lv_aload_n hx hb dCJ_value_31 rfl (lv_at hl 0 rfl) ?_
      refine va_get (D := D) (v := .ref (a 3)) (ci := 7) (C := "CodeJudge") (T := T_CJ) (N := 3) hx hb hts in_CJ hown hK hP 0 cw_0 rfl 2 (by decide) (hts (.fieldLink "CodeJudge" 26 "CodeJudge" "machine" "LCodeJudge$Machine;") tw_1_229) (fun _ h9 => h9) rfl dCJ_value_32 ?_
      refine va_get (D := D) (v := .ref (a 11)) (ci := 3) (C := "CodeJudge$Machine") (T := T_Ma) (N := 7) hx hb hts in_Ma hown hK hP 3 cw_3 rfl 1 (by decide) (hts (.fieldLink "CodeJudge" 129 "CodeJudge$Machine" "frames" "LCodeJudge$Frames;") tw_1_204) (fun _ h9 => h9) rfl dCJ_value_35 ?_
      refine lv_astore_n (lv' := [(3, .ref (a 11)), (0, .ref (a 0)), (1, .int p1), (2, .int p2)]) hx hb dCJ_value_38 rfl hl (by decide) rfl (fun ls hl => ?_)
      refine lv_iload_n hx hb dCJ_value_39 rfl (lv_at hl 2 rfl) ?_
      refine lv_if_ne (tgt := 60) hx hb dCJ_value_40 (by decide) (fun h3 => ?_) (fun h3 => ?_)
      · have hw := hw.1 h3
        exact J60 p1 p2 I F H locs ls (lv_sub hl [1, 2, 3, 0] rfl) hP hS hw
      · have hw := hw.2 h3
        refine lv_iload_n hx hb dCJ_value_43 rfl (lv_at hl 3 rfl) ?_
        refine lv_aload_n hx hb dCJ_value_44 rfl (lv_at hl 0 rfl) ?_
        obtain ⟨P10, hc10, hw⟩ := hw
        refine cc_i (va_runV (As := []) (rest := [.int p2]) ⟨hx, hb, hml, hown, hts⟩ (c_Fr_upperHeight l D a cI cZ cQ hJ I F H.size P10 hc10) (cwV 0 hts (tb_V (C := "CodeJudge$Frames") wc_Fr_upperHeight tw_4_17 tw_3_140 tw_3_141 tw_1_6) rfl rfl rfl (by decide +kernel) ⟨Nat.le_of_ble_eq_true rfl, Nat.le_of_ble_eq_true rfl⟩) ⟨cP_bl, va_recv hK hP rfl cw_11, cP_at hP hK hN⟩ rfl rfl hl.1 rfl (lv_room (Nat.le_of_ble_eq_true rfl)) dCJ_value_45 ⟨Nat.le_of_ble_eq_true rfl, Nat.le_of_ble_eq_true rfl⟩) hS (fun r10 I10 F10 H locs hP hp10 hS => ?_)
        have hw := hw r10 I10 F10 hp10
        obtain ⟨P11, hc11, hw⟩ := hw
        refine cc_i (va_runS (As := [.int p2, .int r10]) (rest := []) ⟨hx, hb, hml, hown, hts⟩ (c_CJ_isBelow l D a cI cZ cQ hJ I10 F10 p2 r10 H.size P11 hc11) (va_cwS 2 hts (tb_S wc_CJ_isBelow tw_2_6 tw_2_7 tw_1_1) rfl rfl rfl (by decide +kernel) ⟨Nat.le_of_ble_eq_true rfl, Nat.le_of_ble_eq_true rfl⟩) ⟨cP_bl, cP_at hP hK hN⟩ rfl rfl hl.1 rfl (lv_room (Nat.le_of_ble_eq_true rfl)) dCJ_value_48 ⟨Nat.le_of_ble_eq_true rfl, Nat.le_of_ble_eq_true rfl⟩) hS (fun r11 I11 F11 H locs hP hp11 hS => ?_)
        have hw := hw r11 I11 F11 hp11
        refine lv_if_eq (tgt := 60) hx hb dCJ_value_51 (by decide) (fun h12 => ?_) (fun h12 => ?_)
        · have hw := hw.1 h12
          exact J60 p1 p2 I11 F11 H locs ls (lv_sub hl [1, 2, 3, 0] rfl) hP hS hw
        · have hw := hw.2 h12
          refine lv_aload_n hx hb dCJ_value_54 rfl (lv_at hl 0 rfl) ?_
          refine lv_iload_n hx hb dCJ_value_55 rfl (lv_at hl 3 rfl) ?_
          obtain ⟨P13, hc13, hw⟩ := hw
          refine cc_i (va_runV (As := [.int p2]) (rest := []) ⟨hx, hb, hml, hown, hts⟩ (c_Fr_onStack l D a cI cZ cQ hJ I11 F11 p2 H.size P13 hc13) (cwV 1 hts (tb_V (C := "CodeJudge$Frames") wc_Fr_onStack tw_4_18 tw_3_144 tw_3_145 tw_1_6) rfl rfl rfl (by decide +kernel) ⟨Nat.le_of_ble_eq_true rfl, Nat.le_of_ble_eq_true rfl⟩) ⟨cP_bl, va_recv hK hP rfl cw_11, cP_at hP hK hN⟩ rfl rfl hl.1 rfl (lv_room (Nat.le_of_ble_eq_true rfl)) dCJ_value_56 ⟨Nat.le_of_ble_eq_true rfl, Nat.le_of_ble_eq_true rfl⟩) hS (fun r13 I13 F13 H locs hP hp13 hS => ?_)
          have hw := hw r13 I13 F13 hp13
          rw [hQ]
          refine W.widen (k := 1) (n := 6) (Nat.le_of_ble_eq_true rfl) (Nat.le_of_ble_eq_true rfl) ?_
          exact xt_ret (W.iret (v := r13) hx hb hr (fun t ht hW => ⟨⟨r13, (I13, F13), rfl, hw, by subst ht; exact hP⟩, hS.F ht⟩) hS.2.2 dCJ_value_59)
    · have hw := hw.2 h2
      rw [hQ]
      exact xt_throw (k := 1) (ik := 34) (ic := 36) (own := "CodeJudge") (cls := "java/util/NoSuchElementException") (names := ["java/lang/RuntimeException", "java/lang/Exception"]) (A := xA 47 a s.heap.size) hx hb hlt hown rfl (by decide +kernel) (by decide +kernel) (hts _ tw_2_9) (hts _ tw_1_13) (xw_hat (by decide) xw_1 hts hX) (xw_off xw_1) hZ hS (hl.1.trans hml.symm) dCJ_value_23 dCJ_value_26 dCJ_value_27 dCJ_value_30 (covers_of_empty (B.noHandlers hcd) _) hlocks (Nat.le_of_ble_eq_true rfl) (Nat.le_of_ble_eq_true rfl) (Nat.le_of_ble_eq_true rfl) (Nat.le_of_ble_eq_true rfl) (fun t h1 h2 => xt_px hP hS hw t h1 h2) hS.2.2 (Nat.le_of_ble_eq_true rfl) (Nat.le_of_ble_eq_true rfl)
def wp_CJ_cell (p1 : Int32) (p2 : Int32) (I : SI) (F : SF) (Post : Int32 → SI → SF → Prop) (PX : Nat → SI → SF → Prop) : Prop := ((I 1) = 0 → (PX 1 I F)) ∧ (¬ (I 1) = 0 → (∃ P2 : Int32 → SI → SF → Prop, wp_He_has p1 I F P2 ∧ ∀ r2 I2 F2, P2 r2 I2 F2 → ((¬ r2 = 0 → ((¬ p2 = (-1) → (∃ P5 : Int32 → SI → SF → Prop, wp_He_hasCell p1 p2 I2 F2 P5 ∧ ∀ r5 I5 F5, P5 r5 I5 F5 → ((¬ r5 = 0 → (∃ P7 : Int32 → SI → SF → Prop, wp_He_read p1 p2 I5 F5 P7 ∧ ∀ r7 I7 F7, P7 r7 I7 F7 → (Post r7 I7 F7))) ∧ (r5 = 0 → (PX 1 I5 F5))))) ∧ (p2 = (-1) → (∃ P8 : Int32 → SI → SF → Prop, wp_He_lengthOf p1 I2 F2 P8 ∧ ∀ r8 I8 F8, P8 r8 I8 F8 → (Post r8 I8 F8))))) ∧ (r2 = 0 → (PX 1 I2 F2)))))
set_option maxHeartbeats 4000000 in
set_option maxRecDepth 100000 in
theorem c_CJ_cell (l : Launch) (hlt : l.stackTraces = false) (D : va_G) (a : Nat → Nat) (cI cZ cQ : ClassId) (hJ : xJ 47 a) (I : SI) (F : SF) (p1 : Int32) (p2 : Int32) (sz : Nat) (Post : Int32 → SI → SF → Prop) (PX : Nat → SI → SF → Prop) (hw : wp_CJ_cell p1 p2 I F Post PX) : xt_Met l y_CJ_cell (Cond.code y_CJ_cell b_CJ_cell 3 (some .int) :: TB) { frames := 6, cells := 1, slots := 6, locals := 96 } (va_Pc [.ref (a 0), .int p1, .int p2] (cY D a cI cZ cQ I F sz)) (va_Qi (fun r (u : SI × SF) => Post r u.1 u.2) (fun u t => va_P D vwCl (cw a cI cZ cQ u.1 u.2) t.heap) (xA 47 a sz)) (cXC D a cI cZ cQ PX sz) 1 6 (xA 47 a sz) := by
  refine xt_ofW (cc := b_CJ_cell) (maxL := 3) (ret := (some .int)) (by decide) rfl ?_
  intro p e s m args below meth c s₁ B hml hv
  obtain ⟨rfl, ⟨⟨rfl, hP, hK, hN⟩, hZ⟩, hX⟩ := hv
  have hx := B.exec
  have hb := B.bytes
  have hr := B.returns
  have hcd := atoms_spec (ws := Cond.code y_CJ_cell b_CJ_cell 3 (some .int) :: TB) B.pre _ List.mem_cons_self
  have hts : ∀ w ∈ TB, w.before _ s = true := fun w h => atoms_spec (ws := Cond.code y_CJ_cell b_CJ_cell 3 (some .int) :: TB) B.pre w (List.mem_cons_of_mem _ h)
  have hown : s.vm.findClass "CodeJudge" = some m.cls := findClass_of_methodNamed B.named
  have hlocks := B.notSynchronized
  have hl := lv_entry ([.ref (a 0), .int p1, .int p2]) (n := 3) (Nat.le_of_ble_eq_true rfl)
  rw [lg_entry_eq]
  generalize (lg_sl ([.ref (a 0), .int p1, .int p2]) ++ List.replicate (3 - (lg_sl ([.ref (a 0), .int p1, .int p2])).length) Slot.unset).toArray = ls at hl ⊢
  have hl : lv_has ls 3 [(0, .ref (a 0)), (1, .int p1), (2, .int p2)] := hl
  suffices hM : ∀ (H : Heap) (locs : List Loc), va_P D vwCl (cw a cI cZ cQ I F) H → va_S (xA 47 a s.heap.size) s.heap H locs → W p l e (headSpec (Cond.code y_CJ_cell b_CJ_cell 3 (some .int) :: TB) { frames := 6, cells := 1, slots := 6, locals := 96 }).room s m ([.ref (a 0), .int p1, .int p2]).toArray below meth c H locs 0 0 (xt_MQ below (va_Qi (fun r (u : SI × SF) => Post r u.1 u.2) (fun u t => va_P D vwCl (cw a cI cZ cQ u.1 u.2) t.heap) (xA 47 a s.heap.size)) (cXC D a cI cZ cQ PX s.heap.size) ([.ref (a 0), .int p1, .int p2]).toArray s 1 6 (xA 47 a s.heap.size)) (F0 m 0 ls []) from hM s.heap [] hP va_S.rf
  clear hP
  intro H locs hP hS
  dsimp only [wp_CJ_cell] at hw
  refine lv_aload_n hx hb dCJ_cell_0 rfl (lv_at hl 0 rfl) ?_
  refine va_get (D := D) (v := .ref (a 3)) (ci := 7) (C := "CodeJudge") (T := T_CJ) (N := 3) hx hb hts in_CJ hown hK hP 0 cw_0 rfl 2 (by decide) (hts (.fieldLink "CodeJudge" 26 "CodeJudge" "machine" "LCodeJudge$Machine;") tw_1_229) (fun _ h9 => h9) rfl dCJ_cell_1 ?_
  refine va_get (D := D) (v := .int (I 1)) (ci := 3) (C := "CodeJudge$Machine") (T := T_Ma) (N := 7) hx hb hts in_Ma hown hK hP 3 cw_3 rfl 0 (by decide) (hts (.fieldLink "CodeJudge" 128 "CodeJudge$Machine" "there" "Z") tw_1_202) (fun _ h9 => h9) rfl dCJ_cell_4 ?_
  refine lv_if_eq (tgt := 24) hx hb dCJ_cell_7 (by decide) (fun h1 => ?_) (fun h1 => ?_)
  · have hw := hw.1 h1
    exact xt_throw (k := 1) (ik := 34) (ic := 36) (own := "CodeJudge") (cls := "java/util/NoSuchElementException") (names := ["java/lang/RuntimeException", "java/lang/Exception"]) (A := xA 47 a s.heap.size) hx hb hlt hown rfl (by decide +kernel) (by decide +kernel) (hts _ tw_2_9) (hts _ tw_1_13) (xw_hat (by decide) xw_1 hts hX) (xw_off xw_1) hZ hS (hl.1.trans hml.symm) dCJ_cell_24 dCJ_cell_27 dCJ_cell_28 dCJ_cell_31 (covers_of_empty (B.noHandlers hcd) _) hlocks (Nat.le_of_ble_eq_true rfl) (Nat.le_of_ble_eq_true rfl) (Nat.le_of_ble_eq_true rfl) (Nat.le_of_ble_eq_true rfl) (fun t h1 h2 => xt_px hP hS hw t h1 h2) hS.2.2 (Nat.le_of_ble_eq_true rfl) (Nat.le_of_ble_eq_true rfl)
  · have hw := hw.2 h1
    refine lv_aload_n hx hb dCJ_cell_10 rfl (lv_at hl 0 rfl) ?_
    refine va_get (D := D) (v := .ref (a 3)) (ci := 7) (C := "CodeJudge") (T := T_CJ) (N := 3) hx hb hts in_CJ hown hK hP 0 cw_0 rfl 2 (by decide) (hts (.fieldLink "CodeJudge" 26 "CodeJudge" "machine" "LCodeJudge$Machine;") tw_1_229) (fun _ h9 => h9) rfl dCJ_cell_11 ?_
    refine va_get (D := D) (v := .ref (a 12)) (ci := 3) (C := "CodeJudge$Machine") (T := T_Ma) (N := 7) hx hb hts in_Ma hown hK hP 3 cw_3 rfl 2 (by decide) (hts (.fieldLink "CodeJudge" 151 "CodeJudge$Machine" "heap" "LCodeJudge$Heap;") tw_1_206) (fun _ h9 => h9) rfl dCJ_cell_14 ?_
    refine lv_iload_n hx hb dCJ_cell_17 rfl (lv_at hl 1 rfl) ?_
    obtain ⟨P2, hc2, hw⟩ := hw
    refine cc_i (va_runV (As := [.int p1]) (rest := []) ⟨hx, hb, hml, hown, hts⟩ (c_He_has l D a cI cZ cQ hJ I F p1 H.size P2 hc2) (cwV 1 hts (tb_V (C := "CodeJudge$Heap") wc_He_has tw_4_28 tw_3_153 tw_3_154 tw_1_7) rfl rfl rfl (by decide +kernel) ⟨Nat.le_of_ble_eq_true rfl, Nat.le_of_ble_eq_true rfl⟩) ⟨cP_bl, va_recv hK hP rfl cw_12, cP_at hP hK hN⟩ rfl rfl hl.1 rfl (lv_room (Nat.le_of_ble_eq_true rfl)) dCJ_cell_18 ⟨Nat.le_of_ble_eq_true rfl, Nat.le_of_ble_eq_true rfl⟩) hS (fun r2 I2 F2 H locs hP hp2 hS => ?_)
    have hw := hw r2 I2 F2 hp2
    refine lv_if_ne (tgt := 32) hx hb dCJ_cell_21 (by decide) (fun h3 => ?_) (fun h3 => ?_)
    · have hw := hw.1 h3
      refine lv_iload_n hx hb dCJ_cell_32 rfl (lv_at hl 2 rfl) ?_
      refine lv_iconst (v := (-1)) hx hb dCJ_cell_33 (by decide) ?_
      refine lv_icmp_ne (tgt := 49) hx hb dCJ_cell_34 (by decide) (fun h4 => ?_) (fun h4 => ?_)
      · have hw := hw.1 h4
        refine lv_aload_n hx hb dCJ_cell_49 rfl (lv_at hl 0 rfl) ?_
        refine va_get (D := D) (v := .ref (a 3)) (ci := 7) (C := "CodeJudge") (T := T_CJ) (N := 3) hx hb hts in_CJ hown hK hP 0 cw_0 rfl 2 (by decide) (hts (.fieldLink "CodeJudge" 26 "CodeJudge" "machine" "LCodeJudge$Machine;") tw_1_229) (fun _ h9 => h9) rfl dCJ_cell_50 ?_
        refine va_get (D := D) (v := .ref (a 12)) (ci := 3) (C := "CodeJudge$Machine") (T := T_Ma) (N := 7) hx hb hts in_Ma hown hK hP 3 cw_3 rfl 2 (by decide) (hts (.fieldLink "CodeJudge" 151 "CodeJudge$Machine" "heap" "LCodeJudge$Heap;") tw_1_206) (fun _ h9 => h9) rfl dCJ_cell_53 ?_
        refine lv_iload_n hx hb dCJ_cell_56 rfl (lv_at hl 1 rfl) ?_
        refine lv_iload_n hx hb dCJ_cell_57 rfl (lv_at hl 2 rfl) ?_
        obtain ⟨P5, hc5, hw⟩ := hw
        refine cc_i (va_runV (As := [.int p1, .int p2]) (rest := []) ⟨hx, hb, hml, hown, hts⟩ (c_He_hasCell l D a cI cZ cQ hJ I2 F2 p1 p2 H.size P5 hc5) (cwV 2 hts (tb_V (C := "CodeJudge$Heap") wc_He_hasCell tw_4_30 tw_3_162 tw_3_163 tw_1_7) rfl rfl rfl (by decide +kernel) ⟨Nat.le_of_ble_eq_true rfl, Nat.le_of_ble_eq_true rfl⟩) ⟨cP_bl, va_recv hK hP rfl cw_12, cP_at hP hK hN⟩ rfl rfl hl.1 rfl (lv_room (Nat.le_of_ble_eq_true rfl)) dCJ_cell_58 ⟨Nat.le_of_ble_eq_true rfl, Nat.le_of_ble_eq_true rfl⟩) hS (fun r5 I5 F5 H locs hP hp5 hS => ?_)
        have hw := hw r5 I5 F5 hp5
        refine lv_if_ne (tgt := 72) hx hb dCJ_cell_61 (by decide) (fun h6 => ?_) (fun h6 => ?_)
        · have hw := hw.1 h6
          refine lv_aload_n hx hb dCJ_cell_72 rfl (lv_at hl 0 rfl) ?_
          refine va_get (D := D) (v := .ref (a 3)) (ci := 7) (C := "CodeJudge") (T := T_CJ) (N := 3) hx hb hts in_CJ hown hK hP 0 cw_0 rfl 2 (by decide) (hts (.fieldLink "CodeJudge" 26 "CodeJudge" "machine" "LCodeJudge$Machine;") tw_1_229) (fun _ h9 => h9) rfl dCJ_cell_73 ?_
          refine va_get (D := D) (v := .ref (a 12)) (ci := 3) (C := "CodeJudge$Machine") (T := T_Ma) (N := 7) hx hb hts in_Ma hown hK hP 3 cw_3 rfl 2 (by decide) (hts (.fieldLink "CodeJudge" 151 "CodeJudge$Machine" "heap" "LCodeJudge$Heap;") tw_1_206) (fun _ h9 => h9) rfl dCJ_cell_76 ?_
          refine lv_iload_n hx hb dCJ_cell_79 rfl (lv_at hl 1 rfl) ?_
          refine lv_iload_n hx hb dCJ_cell_80 rfl (lv_at hl 2 rfl) ?_
          obtain ⟨P7, hc7, hw⟩ := hw
          refine cc_i (va_runV (As := [.int p1, .int p2]) (rest := []) ⟨hx, hb, hml, hown, hts⟩ (c_He_read l D a cI cZ cQ hJ I5 F5 p1 p2 H.size P7 hc7) (cwV 2 hts (tb_V (C := "CodeJudge$Heap") wc_He_read tw_4_31 tw_3_209 tw_3_210 tw_1_7) rfl rfl rfl (by decide +kernel) ⟨Nat.le_of_ble_eq_true rfl, Nat.le_of_ble_eq_true rfl⟩) ⟨cP_bl, va_recv hK hP rfl cw_12, cP_at hP hK hN⟩ rfl rfl hl.1 rfl (lv_room (Nat.le_of_ble_eq_true rfl)) dCJ_cell_81 ⟨Nat.le_of_ble_eq_true rfl, Nat.le_of_ble_eq_true rfl⟩) hS (fun r7 I7 F7 H locs hP hp7 hS => ?_)
          have hw := hw r7 I7 F7 hp7
          refine W.widen (k := 1) (n := 6) (Nat.le_of_ble_eq_true rfl) (Nat.le_of_ble_eq_true rfl) ?_
          exact xt_ret (W.iret (v := r7) hx hb hr (fun t ht hW => ⟨⟨r7, (I7, F7), rfl, hw, by subst ht; exact hP⟩, hS.F ht⟩) hS.2.2 dCJ_cell_84)
        · have hw := hw.2 h6
          exact xt_throw (k := 1) (ik := 34) (ic := 36) (own := "CodeJudge") (cls := "java/util/NoSuchElementException") (names := ["java/lang/RuntimeException", "java/lang/Exception"]) (A := xA 47 a s.heap.size) hx hb hlt hown rfl (by decide +kernel) (by decide +kernel) (hts _ tw_2_9) (hts _ tw_1_13) (xw_hat (by decide) xw_1 hts hX) (xw_off xw_1) hZ hS (hl.1.trans hml.symm) dCJ_cell_64 dCJ_cell_67 dCJ_cell_68 dCJ_cell_71 (covers_of_empty (B.noHandlers hcd) _) hlocks (Nat.le_of_ble_eq_true rfl) (Nat.le_of_ble_eq_true rfl) (Nat.le_of_ble_eq_true rfl) (Nat.le_of_ble_eq_true rfl) (fun t h1 h2 => xt_px hP hS hw t h1 h2) hS.2.2 (Nat.le_of_ble_eq_true rfl) (Nat.le_of_ble_eq_true rfl)
      · have hw := hw.2 h4
        refine lv_aload_n hx hb dCJ_cell_37 rfl (lv_at hl 0 rfl) ?_
        refine va_get (D := D) (v := .ref (a 3)) (ci := 7) (C := "CodeJudge") (T := T_CJ) (N := 3) hx hb hts in_CJ hown hK hP 0 cw_0 rfl 2 (by decide) (hts (.fieldLink "CodeJudge" 26 "CodeJudge" "machine" "LCodeJudge$Machine;") tw_1_229) (fun _ h9 => h9) rfl dCJ_cell_38 ?_
        refine va_get (D := D) (v := .ref (a 12)) (ci := 3) (C := "CodeJudge$Machine") (T := T_Ma) (N := 7) hx hb hts in_Ma hown hK hP 3 cw_3 rfl 2 (by decide) (hts (.fieldLink "CodeJudge" 151 "CodeJudge$Machine" "heap" "LCodeJudge$Heap;") tw_1_206) (fun _ h9 => h9) rfl dCJ_cell_41 ?_
        refine lv_iload_n hx hb dCJ_cell_44 rfl (lv_at hl 1 rfl) ?_
        obtain ⟨P8, hc8, hw⟩ := hw
        refine cc_i (va_runV (As := [.int p1]) (rest := []) ⟨hx, hb, hml, hown, hts⟩ (c_He_lengthOf l D a cI cZ cQ hJ I2 F2 p1 H.size P8 hc8) (cwV 1 hts (tb_V (C := "CodeJudge$Heap") wc_He_lengthOf tw_4_29 tw_3_236 tw_3_237 tw_1_7) rfl rfl rfl (by decide +kernel) ⟨Nat.le_of_ble_eq_true rfl, Nat.le_of_ble_eq_true rfl⟩) ⟨cP_bl, va_recv hK hP rfl cw_12, cP_at hP hK hN⟩ rfl rfl hl.1 rfl (lv_room (Nat.le_of_ble_eq_true rfl)) dCJ_cell_45 ⟨Nat.le_of_ble_eq_true rfl, Nat.le_of_ble_eq_true rfl⟩) hS (fun r8 I8 F8 H locs hP hp8 hS => ?_)
        have hw := hw r8 I8 F8 hp8
        refine W.widen (k := 1) (n := 6) (Nat.le_of_ble_eq_true rfl) (Nat.le_of_ble_eq_true rfl) ?_
        exact xt_ret (W.iret (v := r8) hx hb hr (fun t ht hW => ⟨⟨r8, (I8, F8), rfl, hw, by subst ht; exact hP⟩, hS.F ht⟩) hS.2.2 dCJ_cell_48)
    · have hw := hw.2 h3
      exact xt_throw (k := 1) (ik := 34) (ic := 36) (own := "CodeJudge") (cls := "java/util/NoSuchElementException") (names := ["java/lang/RuntimeException", "java/lang/Exception"]) (A := xA 47 a s.heap.size) hx hb hlt hown rfl (by decide +kernel) (by decide +kernel) (hts _ tw_2_9) (hts _ tw_1_13) (xw_hat (by decide) xw_1 hts hX) (xw_off xw_1) hZ hS (hl.1.trans hml.symm) dCJ_cell_24 dCJ_cell_27 dCJ_cell_28 dCJ_cell_31 (covers_of_empty (B.noHandlers hcd) _) hlocks (Nat.le_of_ble_eq_true rfl) (Nat.le_of_ble_eq_true rfl) (Nat.le_of_ble_eq_true rfl) (Nat.le_of_ble_eq_true rfl) (fun t h1 h2 => xt_px hP hS hw t h1 h2) hS.2.2 (Nat.le_of_ble_eq_true rfl) (Nat.le_of_ble_eq_true rfl)
def wp_CJ_output (p1 : Int32) (I : SI) (F : SF) (Post : Int32 → SI → SF → Prop) (PX : Nat → SI → SF → Prop) : Prop := ((I 1) = 0 → (PX 1 I F)) ∧ (¬ (I 1) = 0 → (∃ P2 : Int32 → SI → SF → Prop, wp_Ou_keeps p1 I F P2 ∧ ∀ r2 I2 F2, P2 r2 I2 F2 → ((¬ r2 = 0 → (∃ P4 : Int32 → SI → SF → Prop, wp_Ou_read p1 I2 F2 P4 ∧ ∀ r4 I4 F4, P4 r4 I4 F4 → (Post r4 I4 F4))) ∧ (r2 = 0 → (PX 1 I2 F2)))))
set_option maxHeartbeats 4000000 in
set_option maxRecDepth 100000 in
theorem c_CJ_output (l : Launch) (hlt : l.stackTraces = false) (D : va_G) (a : Nat → Nat) (cI cZ cQ : ClassId) (hJ : xJ 47 a) (I : SI) (F : SF) (p1 : Int32) (sz : Nat) (Post : Int32 → SI → SF → Prop) (PX : Nat → SI → SF → Prop) (hw : wp_CJ_output p1 I F Post PX) : xt_Met l y_CJ_output (Cond.code y_CJ_output b_CJ_output 2 (some .int) :: TB) { frames := 6, cells := 1, slots := 6, locals := 96 } (va_Pc [.ref (a 0), .int p1] (cY D a cI cZ cQ I F sz)) (va_Qi (fun r (u : SI × SF) => Post r u.1 u.2) (fun u t => va_P D vwCl (cw a cI cZ cQ u.1 u.2) t.heap) (xA 47 a sz)) (cXC D a cI cZ cQ PX sz) 1 6 (xA 47 a sz) := by
  refine xt_ofW (cc := b_CJ_output) (maxL := 2) (ret := (some .int)) (by decide) rfl ?_
  intro p e s m args below meth c s₁ B hml hv
  obtain ⟨rfl, ⟨⟨rfl, hP, hK, hN⟩, hZ⟩, hX⟩ := hv
  have hx := B.exec
  have hb := B.bytes
  have hr := B.returns
  have hcd := atoms_spec (ws := Cond.code y_CJ_output b_CJ_output 2 (some .int) :: TB) B.pre _ List.mem_cons_self
  have hts : ∀ w ∈ TB, w.before _ s = true := fun w h => atoms_spec (ws := Cond.code y_CJ_output b_CJ_output 2 (some .int) :: TB) B.pre w (List.mem_cons_of_mem _ h)
  have hown : s.vm.findClass "CodeJudge" = some m.cls := findClass_of_methodNamed B.named
  have hlocks := B.notSynchronized
  have hl := lv_entry ([.ref (a 0), .int p1]) (n := 2) (Nat.le_of_ble_eq_true rfl)
  rw [lg_entry_eq]
  generalize (lg_sl ([.ref (a 0), .int p1]) ++ List.replicate (2 - (lg_sl ([.ref (a 0), .int p1])).length) Slot.unset).toArray = ls at hl ⊢
  have hl : lv_has ls 2 [(0, .ref (a 0)), (1, .int p1)] := hl
  suffices hM : ∀ (H : Heap) (locs : List Loc), va_P D vwCl (cw a cI cZ cQ I F) H → va_S (xA 47 a s.heap.size) s.heap H locs → W p l e (headSpec (Cond.code y_CJ_output b_CJ_output 2 (some .int) :: TB) { frames := 6, cells := 1, slots := 6, locals := 96 }).room s m ([.ref (a 0), .int p1]).toArray below meth c H locs 0 0 (xt_MQ below (va_Qi (fun r (u : SI × SF) => Post r u.1 u.2) (fun u t => va_P D vwCl (cw a cI cZ cQ u.1 u.2) t.heap) (xA 47 a s.heap.size)) (cXC D a cI cZ cQ PX s.heap.size) ([.ref (a 0), .int p1]).toArray s 1 6 (xA 47 a s.heap.size)) (F0 m 0 ls []) from hM s.heap [] hP va_S.rf
  clear hP
  intro H locs hP hS
  dsimp only [wp_CJ_output] at hw
  refine lv_aload_n hx hb dCJ_output_0 rfl (lv_at hl 0 rfl) ?_
  refine va_get (D := D) (v := .ref (a 3)) (ci := 7) (C := "CodeJudge") (T := T_CJ) (N := 3) hx hb hts in_CJ hown hK hP 0 cw_0 rfl 2 (by decide) (hts (.fieldLink "CodeJudge" 26 "CodeJudge" "machine" "LCodeJudge$Machine;") tw_1_229) (fun _ h9 => h9) rfl dCJ_output_1 ?_
  refine va_get (D := D) (v := .int (I 1)) (ci := 3) (C := "CodeJudge$Machine") (T := T_Ma) (N := 7) hx hb hts in_Ma hown hK hP 3 cw_3 rfl 0 (by decide) (hts (.fieldLink "CodeJudge" 128 "CodeJudge$Machine" "there" "Z") tw_1_202) (fun _ h9 => h9) rfl dCJ_output_4 ?_
  refine lv_if_eq (tgt := 24) hx hb dCJ_output_7 (by decide) (fun h1 => ?_) (fun h1 => ?_)
  · have hw := hw.1 h1
    exact xt_throw (k := 1) (ik := 34) (ic := 36) (own := "CodeJudge") (cls := "java/util/NoSuchElementException") (names := ["java/lang/RuntimeException", "java/lang/Exception"]) (A := xA 47 a s.heap.size) hx hb hlt hown rfl (by decide +kernel) (by decide +kernel) (hts _ tw_2_9) (hts _ tw_1_13) (xw_hat (by decide) xw_1 hts hX) (xw_off xw_1) hZ hS (hl.1.trans hml.symm) dCJ_output_24 dCJ_output_27 dCJ_output_28 dCJ_output_31 (covers_of_empty (B.noHandlers hcd) _) hlocks (Nat.le_of_ble_eq_true rfl) (Nat.le_of_ble_eq_true rfl) (Nat.le_of_ble_eq_true rfl) (Nat.le_of_ble_eq_true rfl) (fun t h1 h2 => xt_px hP hS hw t h1 h2) hS.2.2 (Nat.le_of_ble_eq_true rfl) (Nat.le_of_ble_eq_true rfl)
  · have hw := hw.2 h1
    refine lv_aload_n hx hb dCJ_output_10 rfl (lv_at hl 0 rfl) ?_
    refine va_get (D := D) (v := .ref (a 3)) (ci := 7) (C := "CodeJudge") (T := T_CJ) (N := 3) hx hb hts in_CJ hown hK hP 0 cw_0 rfl 2 (by decide) (hts (.fieldLink "CodeJudge" 26 "CodeJudge" "machine" "LCodeJudge$Machine;") tw_1_229) (fun _ h9 => h9) rfl dCJ_output_11 ?_
    refine va_get (D := D) (v := .ref (a 13)) (ci := 3) (C := "CodeJudge$Machine") (T := T_Ma) (N := 7) hx hb hts in_Ma hown hK hP 3 cw_3 rfl 3 (by decide) (hts (.fieldLink "CodeJudge" 169 "CodeJudge$Machine" "outputs" "LCodeJudge$Outputs;") tw_1_208) (fun _ h9 => h9) rfl dCJ_output_14 ?_
    refine lv_iload_n hx hb dCJ_output_17 rfl (lv_at hl 1 rfl) ?_
    obtain ⟨P2, hc2, hw⟩ := hw
    refine cc_i (va_runV (As := [.int p1]) (rest := []) ⟨hx, hb, hml, hown, hts⟩ (c_Ou_keeps l D a cI cZ cQ hJ I F p1 H.size P2 hc2) (cwV 1 hts (tb_V (C := "CodeJudge$Outputs") wc_Ou_keeps tw_4_39 tw_4_40 tw_4_41 tw_1_8) rfl rfl rfl (by decide +kernel) ⟨Nat.le_of_ble_eq_true rfl, Nat.le_of_ble_eq_true rfl⟩) ⟨cP_bl, va_recv hK hP rfl cw_13, cP_at hP hK hN⟩ rfl rfl hl.1 rfl (lv_room (Nat.le_of_ble_eq_true rfl)) dCJ_output_18 ⟨Nat.le_of_ble_eq_true rfl, Nat.le_of_ble_eq_true rfl⟩) hS (fun r2 I2 F2 H locs hP hp2 hS => ?_)
    have hw := hw r2 I2 F2 hp2
    refine lv_if_ne (tgt := 32) hx hb dCJ_output_21 (by decide) (fun h3 => ?_) (fun h3 => ?_)
    · have hw := hw.1 h3
      refine lv_aload_n hx hb dCJ_output_32 rfl (lv_at hl 0 rfl) ?_
      refine va_get (D := D) (v := .ref (a 3)) (ci := 7) (C := "CodeJudge") (T := T_CJ) (N := 3) hx hb hts in_CJ hown hK hP 0 cw_0 rfl 2 (by decide) (hts (.fieldLink "CodeJudge" 26 "CodeJudge" "machine" "LCodeJudge$Machine;") tw_1_229) (fun _ h9 => h9) rfl dCJ_output_33 ?_
      refine va_get (D := D) (v := .ref (a 13)) (ci := 3) (C := "CodeJudge$Machine") (T := T_Ma) (N := 7) hx hb hts in_Ma hown hK hP 3 cw_3 rfl 3 (by decide) (hts (.fieldLink "CodeJudge" 169 "CodeJudge$Machine" "outputs" "LCodeJudge$Outputs;") tw_1_208) (fun _ h9 => h9) rfl dCJ_output_36 ?_
      refine lv_iload_n hx hb dCJ_output_39 rfl (lv_at hl 1 rfl) ?_
      obtain ⟨P4, hc4, hw⟩ := hw
      refine cc_i (va_runV (As := [.int p1]) (rest := []) ⟨hx, hb, hml, hown, hts⟩ (c_Ou_read l D a cI cZ cQ hJ I2 F2 p1 H.size P4 hc4) (cwV 1 hts (tb_V (C := "CodeJudge$Outputs") wc_Ou_read tw_4_44 tw_4_45 tw_4_46 tw_1_8) rfl rfl rfl (by decide +kernel) ⟨Nat.le_of_ble_eq_true rfl, Nat.le_of_ble_eq_true rfl⟩) ⟨cP_bl, va_recv hK hP rfl cw_13, cP_at hP hK hN⟩ rfl rfl hl.1 rfl (lv_room (Nat.le_of_ble_eq_true rfl)) dCJ_output_40 ⟨Nat.le_of_ble_eq_true rfl, Nat.le_of_ble_eq_true rfl⟩) hS (fun r4 I4 F4 H locs hP hp4 hS => ?_)
      have hw := hw r4 I4 F4 hp4
      refine W.widen (k := 1) (n := 6) (Nat.le_of_ble_eq_true rfl) (Nat.le_of_ble_eq_true rfl) ?_
      exact xt_ret (W.iret (v := r4) hx hb hr (fun t ht hW => ⟨⟨r4, (I4, F4), rfl, hw, by subst ht; exact hP⟩, hS.F ht⟩) hS.2.2 dCJ_output_43)
    · have hw := hw.2 h3
      exact xt_throw (k := 1) (ik := 34) (ic := 36) (own := "CodeJudge") (cls := "java/util/NoSuchElementException") (names := ["java/lang/RuntimeException", "java/lang/Exception"]) (A := xA 47 a s.heap.size) hx hb hlt hown rfl (by decide +kernel) (by decide +kernel) (hts _ tw_2_9) (hts _ tw_1_13) (xw_hat (by decide) xw_1 hts hX) (xw_off xw_1) hZ hS (hl.1.trans hml.symm) dCJ_output_24 dCJ_output_27 dCJ_output_28 dCJ_output_31 (covers_of_empty (B.noHandlers hcd) _) hlocks (Nat.le_of_ble_eq_true rfl) (Nat.le_of_ble_eq_true rfl) (Nat.le_of_ble_eq_true rfl) (Nat.le_of_ble_eq_true rfl) (fun t h1 h2 => xt_px hP hS hw t h1 h2) hS.2.2 (Nat.le_of_ble_eq_true rfl) (Nat.le_of_ble_eq_true rfl)
def wp_CJ_count_52 (K20 : Int32 → Int32 → Int32 → SI → SF → Prop) (Post : Int32 → SI → SF → Prop) (PX : Nat → SI → SF → Prop) (x1 : Int32) (x2 : Int32) (x3 : Int32) (I : SI) (F : SF) : Prop := ∀ x6 : Int32, x6 = x3 + 1 → (K20 x1 x2 x6 I F)
def wp_CJ_count_20 (Post : Int32 → SI → SF → Prop) (PX : Nat → SI → SF → Prop) : Nat → Int32 → Int32 → Int32 → SI → SF → Prop
  | 0 => fun _ _ _ _ _ => False
  | n + 1 => fun x1 x2 x3 I F => (8 ≤ x3 → (Post x2 I F)) ∧ (¬ 8 ≤ x3 → (vp_in x3 8 ∧ (((I (20 + 10 * x3.toNatClampNeg)) = 0 → (wp_CJ_count_52 (wp_CJ_count_20 Post PX n) Post PX x1 x2 x3 I F)) ∧ (¬ (I (20 + 10 * x3.toNatClampNeg)) = 0 → (vp_in x3 8 ∧ (∃ P8 : Int32 → SI → SF → Prop, wp_CJ_share x3.toNatClampNeg x1 I F P8 ∧ ∀ r8 I8 F8, P8 r8 I8 F8 → (∀ x9 : Int32, x9 = x2 + r8 → (wp_CJ_count_52 (wp_CJ_count_20 Post PX n) Post PX x1 x9 x3 I8 F8))))))))
def wp_CJ_count (p1 : Int32) (I : SI) (F : SF) (Post : Int32 → SI → SF → Prop) (PX : Nat → SI → SF → Prop) : Prop := ∃ P1 : Int32 → SI → SF → Prop, wp_CJ_isBelow p1 3 I F P1 ∧ ∀ r1 I1 F1, P1 r1 I1 F1 → ((¬ r1 = 0 → (∃ q20, wp_CJ_count_20 Post PX q20 p1 0 0 I1 F1)) ∧ (r1 = 0 → (PX 2 I1 F1)))
set_option maxHeartbeats 4000000 in
set_option maxRecDepth 100000 in
theorem c_CJ_count (l : Launch) (hlt : l.stackTraces = false) (D : va_G) (a : Nat → Nat) (cI cZ cQ : ClassId) (hJ : xJ 47 a) (I : SI) (F : SF) (p1 : Int32) (sz : Nat) (Post : Int32 → SI → SF → Prop) (PX : Nat → SI → SF → Prop) (hw : wp_CJ_count p1 I F Post PX) : xt_Met l y_CJ_count (Cond.code y_CJ_count b_CJ_count 4 (some .int) :: TB) { frames := 6, cells := 1, slots := 6, locals := 137 } (va_Pc [.ref (a 0), .int p1] (cY D a cI cZ cQ I F sz)) (va_Qi (fun r (u : SI × SF) => Post r u.1 u.2) (fun u t => va_P D vwCl (cw a cI cZ cQ u.1 u.2) t.heap) (xA 47 a sz)) (cXC D a cI cZ cQ PX sz) 1 6 (xA 47 a sz) := by
  refine xt_ofW (cc := b_CJ_count) (maxL := 4) (ret := (some .int)) (by decide) rfl ?_
  intro p e s m args below meth c s₁ B hml hv
  obtain ⟨rfl, ⟨⟨rfl, hP, hK, hN⟩, hZ⟩, hX⟩ := hv
  have hx := B.exec
  have hb := B.bytes
  have hr := B.returns
  have hcd := atoms_spec (ws := Cond.code y_CJ_count b_CJ_count 4 (some .int) :: TB) B.pre _ List.mem_cons_self
  have hts : ∀ w ∈ TB, w.before _ s = true := fun w h => atoms_spec (ws := Cond.code y_CJ_count b_CJ_count 4 (some .int) :: TB) B.pre w (List.mem_cons_of_mem _ h)
  have hown : s.vm.findClass "CodeJudge" = some m.cls := findClass_of_methodNamed B.named
  have hlocks := B.notSynchronized
  have hl := lv_entry ([.ref (a 0), .int p1]) (n := 4) (Nat.le_of_ble_eq_true rfl)
  rw [lg_entry_eq]
  generalize (lg_sl ([.ref (a 0), .int p1]) ++ List.replicate (4 - (lg_sl ([.ref (a 0), .int p1])).length) Slot.unset).toArray = ls at hl ⊢
  have hl : lv_has ls 4 [(0, .ref (a 0)), (1, .int p1)] := hl
  obtain ⟨Q, hQ⟩ : ∃ Q, Q = xt_MQ below (va_Qi (fun r (u : SI × SF) => Post r u.1 u.2) (fun u t => va_P D vwCl (cw a cI cZ cQ u.1 u.2) t.heap) (xA 47 a s.heap.size)) (cXC D a cI cZ cQ PX s.heap.size) ([.ref (a 0), .int p1]).toArray s 1 6 (xA 47 a s.heap.size) := ⟨_, rfl⟩
  rw [← hQ]
  have J20 : ∀ n : Nat, ∀ (x1 : Int32) (x2 : Int32) (x3 : Int32) (I : SI) (F : SF) (H : Heap) (locs : List Loc) (ls : Array Slot), lv_has ls 4 [(0, .ref (a 0)), (1, .int x1), (2, .int x2), (3, .int x3)] → va_P D vwCl (cw a cI cZ cQ I F) H → va_S (xA 47 a s.heap.size) s.heap H locs → wp_CJ_count_20 Post PX n x1 x2 x3 I F → W p l e (headSpec (Cond.code y_CJ_count b_CJ_count 4 (some .int) :: TB) { frames := 6, cells := 1, slots := 6, locals := 137 }).room s m ([.ref (a 0), .int p1]).toArray below meth c H locs 0 0 Q (F0 m 20 ls []) := by
    intro n20
    induction n20 with
    | zero =>
      intro x1 x2 x3 I F H locs ls hl hP hS hw
      exact False.elim hw
    | succ n20 ih20 =>
      have J52 : ∀ (x1 : Int32) (x2 : Int32) (x3 : Int32) (I : SI) (F : SF) (H : Heap) (locs : List Loc) (ls : Array Slot), lv_has ls 4 [(0, .ref (a 0)), (1, .int x1), (2, .int x2), (3, .int x3)] → va_P D vwCl (cw a cI cZ cQ I F) H → va_S (xA 47 a s.heap.size) s.heap H locs → wp_CJ_count_52 (wp_CJ_count_20 Post PX n20) Post PX x1 x2 x3 I F → W p l e (headSpec (Cond.code y_CJ_count b_CJ_count 4 (some .int) :: TB) { frames := 6, cells := 1, slots := 6, locals := 137 }).room s m ([.ref (a 0), .int p1]).toArray below meth c H locs 0 0 Q (F0 m 52 ls []) := by
        intro x1 x2 x3 I F H locs ls hl hP hS hw
        dsimp only [wp_CJ_count_52] at hw
        obtain ⟨x6, e_x6⟩ : ∃ z : Int32, z = x3 + 1 := ⟨_, rfl⟩
        have hw := hw x6 e_x6
        refine lv_iinc (k := 3) (v := x6) (lv' := [(3, .int x6), (0, .ref (a 0)), (1, .int x1), (2, .int x2)]) hx hb dCJ_count_52 hl rfl (e_x6 ▸ (by first | rfl | decide)) (by decide) rfl (fun ls hl => ?_)
        refine lv_goto (tgt := 20) hx hb dCJ_count_55 (by decide) ?_
        exact ih20 x1 x2 x6 I F H locs ls (lv_sub hl [1, 2, 3, 0] rfl) hP hS hw
      intro x1 x2 x3 I F H locs ls hl hP hS hw
      dsimp only [wp_CJ_count_20] at hw
      refine lv_iload_n hx hb dCJ_count_20 rfl (lv_at hl 3 rfl) ?_
      refine lv_bipush (v := 8) hx hb dCJ_count_21 (by decide) ?_
      refine lv_icmp_ge (tgt := 58) hx hb dCJ_count_23 (by decide) (fun h3 => ?_) (fun h3 => ?_)
      · have hw := hw.1 h3
        refine lv_iload_n hx hb dCJ_count_58 rfl (lv_at hl 2 rfl) ?_
        rw [hQ]
        refine W.widen (k := 1) (n := 6) (Nat.le_of_ble_eq_true rfl) (Nat.le_of_ble_eq_true rfl) ?_
        exact xt_ret (W.iret (v := x2) hx hb hr (fun t ht hW => ⟨⟨x2, (I, F), rfl, hw, by subst ht; exact hP⟩, hS.F ht⟩) hS.2.2 dCJ_count_59)
      · have hw := hw.2 h3
        refine lv_aload_n hx hb dCJ_count_26 rfl (lv_at hl 0 rfl) ?_
        refine va_get (D := D) (v := .ref (a 1)) (ci := 7) (C := "CodeJudge") (T := T_CJ) (N := 3) hx hb hts in_CJ hown hK hP 0 cw_0 rfl 0 (by decide) (hts (.fieldLink "CodeJudge" 11 "CodeJudge" "methods" "[LCodeJudge$Method;") tw_1_227) (fun _ h9 => h9) rfl dCJ_count_27 ?_
        refine lv_iload_n hx hb dCJ_count_30 rfl (lv_at hl 3 rfl) ?_
        obtain ⟨h4, hw⟩ := hw
        refine va_aldq hx hb hK hP 1 2 cw_1 rfl h4 dCJ_count_31 ?_
        have kh4 := vin_lt h4
        refine va_get (D := D) (v := .int (I (20 + 10 * x3.toNatClampNeg))) (ci := 4) (C := "CodeJudge$Method") (T := T_Me) (N := 9) hx hb hts in_Me hown hK hP (23 + 3 * x3.toNatClampNeg) (cw_M kh4) rfl 0 (by decide) (hts (.fieldLink "CodeJudge" 40 "CodeJudge$Method" "there" "Z") tw_1_35) (fun _ h9 => h9) rfl dCJ_count_32 ?_
        refine lv_if_eq (tgt := 52) hx hb dCJ_count_35 (by decide) (fun h5 => ?_) (fun h5 => ?_)
        · have hw := hw.1 h5
          exact J52 x1 x2 x3 I F H locs ls (lv_sub hl [0, 1, 2, 3] rfl) hP hS hw
        · have hw := hw.2 h5
          refine lv_iload_n hx hb dCJ_count_38 rfl (lv_at hl 2 rfl) ?_
          refine lv_aload_n hx hb dCJ_count_39 rfl (lv_at hl 0 rfl) ?_
          refine lv_aload_n hx hb dCJ_count_40 rfl (lv_at hl 0 rfl) ?_
          refine va_get (D := D) (v := .ref (a 1)) (ci := 7) (C := "CodeJudge") (T := T_CJ) (N := 3) hx hb hts in_CJ hown hK hP 0 cw_0 rfl 0 (by decide) (hts (.fieldLink "CodeJudge" 11 "CodeJudge" "methods" "[LCodeJudge$Method;") tw_1_227) (fun _ h9 => h9) rfl dCJ_count_41 ?_
          refine lv_iload_n hx hb dCJ_count_44 rfl (lv_at hl 3 rfl) ?_
          obtain ⟨h7, hw⟩ := hw
          refine va_aldq hx hb hK hP 1 2 cw_1 rfl h7 dCJ_count_45 ?_
          have kh7 := vin_lt h7
          refine lv_iload_n hx hb dCJ_count_46 rfl (lv_at hl 1 rfl) ?_
          obtain ⟨P8, hc8, hw⟩ := hw
          refine cc_i (va_runV (As := [.ref (a (23 + 3 * x3.toNatClampNeg)), .int x1]) (rest := [.int x2]) ⟨hx, hb, hml, hown, hts⟩ (c_CJ_share l D a cI cZ cQ hJ I F x3.toNatClampNeg x1 kh7 H.size P8 hc8) (cwV 2 hts (tb_V (C := "CodeJudge") wc_CJ_share tw_4_56 tw_4_58 tw_0_20 tw_1_1) rfl rfl rfl (by decide +kernel) ⟨Nat.le_of_ble_eq_true rfl, Nat.le_of_ble_eq_true rfl⟩) ⟨cP_bl, va_recv hK hP rfl cw_0, cP_at hP hK hN⟩ rfl rfl hl.1 rfl (lv_room (Nat.le_of_ble_eq_true rfl)) dCJ_count_47 ⟨Nat.le_of_ble_eq_true rfl, Nat.le_of_ble_eq_true rfl⟩) hS (fun r8 I8 F8 H locs hP hp8 hS => ?_)
          have hw := hw r8 I8 F8 hp8
          refine lv_iadd hx hb dCJ_count_50 ?_
          refine lv_topi (fun x9 e_x9 => ?_)
          have hw := hw x9 e_x9
          refine lv_istore_n (lv' := [(2, .int x9), (0, .ref (a 0)), (1, .int x1), (3, .int x3)]) hx hb dCJ_count_51 rfl hl (by decide) rfl (fun ls hl => ?_)
          exact J52 x1 x9 x3 I8 F8 H locs ls (lv_sub hl [1, 2, 0, 3] rfl) hP hS hw
  suffices hM : ∀ (H : Heap) (locs : List Loc), va_P D vwCl (cw a cI cZ cQ I F) H → va_S (xA 47 a s.heap.size) s.heap H locs → W p l e (headSpec (Cond.code y_CJ_count b_CJ_count 4 (some .int) :: TB) { frames := 6, cells := 1, slots := 6, locals := 137 }).room s m ([.ref (a 0), .int p1]).toArray below meth c H locs 0 0 (Q) (F0 m 0 ls []) from hM s.heap [] hP va_S.rf
  clear hP
  intro H locs hP hS
  dsimp only [wp_CJ_count] at hw
  refine lv_iload_n hx hb dCJ_count_0 rfl (lv_at hl 1 rfl) ?_
  refine lv_iconst (v := 3) hx hb dCJ_count_1 (by decide) ?_
  obtain ⟨P1, hc1, hw⟩ := hw
  refine cc_i (va_runS (As := [.int p1, .int 3]) (rest := []) ⟨hx, hb, hml, hown, hts⟩ (c_CJ_isBelow l D a cI cZ cQ hJ I F p1 3 H.size P1 hc1) (va_cwS 2 hts (tb_S wc_CJ_isBelow tw_2_6 tw_2_7 tw_1_1) rfl rfl rfl (by decide +kernel) ⟨Nat.le_of_ble_eq_true rfl, Nat.le_of_ble_eq_true rfl⟩) ⟨cP_bl, cP_at hP hK hN⟩ rfl rfl hl.1 rfl (lv_room (Nat.le_of_ble_eq_true rfl)) dCJ_count_2 ⟨Nat.le_of_ble_eq_true rfl, Nat.le_of_ble_eq_true rfl⟩) hS (fun r1 I1 F1 H locs hP hp1 hS => ?_)
  have hw := hw r1 I1 F1 hp1
  refine lv_if_ne (tgt := 16) hx hb dCJ_count_5 (by decide) (fun h2 => ?_) (fun h2 => ?_)
  · have hw := hw.1 h2
    refine lv_iconst (v := 0) hx hb dCJ_count_16 (by decide) ?_
    refine lv_istore_n (lv' := [(2, .int 0), (0, .ref (a 0)), (1, .int p1)]) hx hb dCJ_count_17 rfl hl (by decide) rfl (fun ls hl => ?_)
    refine lv_iconst (v := 0) hx hb dCJ_count_18 (by decide) ?_
    refine lv_istore_n (lv' := [(3, .int 0), (2, .int 0), (0, .ref (a 0)), (1, .int p1)]) hx hb dCJ_count_19 rfl hl (by decide) rfl (fun ls hl => ?_)
    obtain ⟨n20, hw⟩ := hw
    exact J20 n20 p1 0 0 I1 F1 H locs ls (lv_sub hl [2, 3, 1, 0] rfl) hP hS hw
  · have hw := hw.2 h2
    rw [hQ]
    exact xt_throw (k := 2) (ik := 37) (ic := 39) (own := "CodeJudge") (cls := "java/lang/IllegalArgumentException") (names := ["java/lang/RuntimeException", "java/lang/Exception"]) (A := xA 47 a s.heap.size) hx hb hlt hown rfl (by decide +kernel) (by decide +kernel) (hts _ tw_2_72) (hts _ tw_1_14) (xw_hat (by decide) xw_2 hts hX) (xw_off xw_2) hZ hS (hl.1.trans hml.symm) dCJ_count_8 dCJ_count_11 dCJ_count_12 dCJ_count_15 (covers_of_empty (B.noHandlers hcd) _) hlocks (Nat.le_of_ble_eq_true rfl) (Nat.le_of_ble_eq_true rfl) (Nat.le_of_ble_eq_true rfl) (Nat.le_of_ble_eq_true rfl) (fun t h1 h2 => xt_px hP hS hw t h1 h2) hS.2.2 (Nat.le_of_ble_eq_true rfl) (Nat.le_of_ble_eq_true rfl)
