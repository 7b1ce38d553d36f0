def wp_Me_takesArray (k0 : Nat) (p1 : Int32) (I : SI) (F : SF) (Post : Int32 → SI → SF → Prop) : Prop := ((((I (22 + 10 * k0)) >>> (p1 &&& 31)) &&& 1) = 0 → (Post 0 I F)) ∧ (¬ (((I (22 + 10 * k0)) >>> (p1 &&& 31)) &&& 1) = 0 → (Post 1 I F))
set_option maxHeartbeats 4000000 in
set_option maxRecDepth 100000 in
theorem c_Me_takesArray (l : Launch) (D : va_G) (a : Nat → Nat) (cI cZ cQ : ClassId) (hJ : xJ 47 a) (I : SI) (F : SF) (k0 : Nat) (p1 : Int32) (hk0 : k0 < 8) (sz : Nat) (Post : Int32 → SI → SF → Prop) (hw : wp_Me_takesArray k0 p1 I F Post) : Met l y_Me_takesArray (Cond.code y_Me_takesArray b_Me_takesArray 2 (some .boolean) :: TB) { frames := 0, cells := 0, slots := 0, locals := 0 } (va_Pc [.ref (a (23 + 3 * k0)), .int p1] (cP D a cI cZ cQ I F sz)) (va_Qi (fun r (u : SI × SF) => Post r u.1 u.2) (fun u t => va_P D vwCl (cw a cI cZ cQ u.1 u.2) t.heap) (xA 47 a sz)) 0 0 (xA 47 a sz) := by
  refine Met.ofW (cc := b_Me_takesArray) (maxL := 2) (ret := (some .boolean)) (by decide) rfl ?_
  intro p e s m args below meth c s₁ B hml hv
  obtain ⟨rfl, rfl, hP, hK, hN⟩ := hv
  have hx := B.exec
  have hb := B.bytes
  have hr := B.returns
  have hts : ∀ w ∈ TB, w.before _ s = true := fun w h => atoms_spec (ws := Cond.code y_Me_takesArray b_Me_takesArray 2 (some .boolean) :: TB) B.pre w (List.mem_cons_of_mem _ h)
  have hown : s.vm.findClass "CodeJudge$Method" = some m.cls := findClass_of_methodNamed B.named
  have hlocks := B.notSynchronized
  have hl := lv_entry ([.ref (a (23 + 3 * k0)), .int p1]) (n := 2) (Nat.le_of_ble_eq_true rfl)
  rw [lg_entry_eq]
  generalize (lg_sl ([.ref (a (23 + 3 * k0)), .int p1]) ++ List.replicate (2 - (lg_sl ([.ref (a (23 + 3 * k0)), .int p1])).length) Slot.unset).toArray = ls at hl ⊢
  have hl : lv_has ls 2 [(0, .ref (a (23 + 3 * k0))), (1, .int p1)] := hl
  suffices hM : ∀ (H : Heap) (locs : List Loc), va_P D vwCl (cw a cI cZ cQ I F) H → va_S (xA 47 a s.heap.size) s.heap H locs → W p l e (headSpec (Cond.code y_Me_takesArray b_Me_takesArray 2 (some .boolean) :: TB) { frames := 0, cells := 0, slots := 0, locals := 0 }).room s m ([.ref (a (23 + 3 * k0)), .int p1]).toArray below meth c H locs 0 0 (MQ below (va_Qi (fun r (u : SI × SF) => Post r u.1 u.2) (fun u t => va_P D vwCl (cw a cI cZ cQ u.1 u.2) t.heap) (xA 47 a s.heap.size)) ([.ref (a (23 + 3 * k0)), .int p1]).toArray s 0 0 (xA 47 a s.heap.size)) (F0 m 0 ls []) from hM s.heap [] hP va_S.rf
  clear hP
  intro H locs hP hS
  dsimp only [wp_Me_takesArray] at hw
  refine lv_aload_n hx hb dMe_takesArray_0 rfl (lv_at hl 0 rfl) ?_
  refine va_get (D := D) (v := .int (I (22 + 10 * k0))) (ci := 4) (C := "CodeJudge$Method") (T := T_Me) (N := 9) hx hb hts in_Me hown hK hP (23 + 3 * k0) (cw_M hk0) rfl 2 (by decide) (hts (.fieldLink "CodeJudge$Method" 26 "CodeJudge$Method" "arrays" "I") tw_1_40) (fun _ h9 => h9) rfl dMe_takesArray_1 ?_
  refine lv_iload_n hx hb dMe_takesArray_4 rfl (lv_at hl 1 rfl) ?_
  refine lv_ishr hx hb dMe_takesArray_5 ?_
  refine lv_iconst (v := 1) hx hb dMe_takesArray_6 (by decide) ?_
  refine lv_iand hx hb dMe_takesArray_7 ?_
  refine lv_if_eq (tgt := 15) hx hb dMe_takesArray_8 (by decide) (fun h1 => ?_) (fun h1 => ?_)
  · have hw := hw.1 h1
    refine lv_iconst (v := 0) hx hb dMe_takesArray_15 (by decide) ?_
    exact W.zret (v := 0) hx hb hr rfl (fun t ht hW => ⟨⟨0, (I, F), rfl, hw, by subst ht; exact hP⟩, hS.F ht⟩) hS.2.2 dMe_takesArray_16
  · have hw := hw.2 h1
    refine lv_iconst (v := 1) hx hb dMe_takesArray_11 (by decide) ?_
    refine lv_goto (tgt := 16) hx hb dMe_takesArray_12 (by decide) ?_
    exact W.zret (v := 1) hx hb hr rfl (fun t ht hW => ⟨⟨1, (I, F), rfl, hw, by subst ht; exact hP⟩, hS.F ht⟩) hS.2.2 dMe_takesArray_16
def wp_CJ_cellsFit_18 (Post : Int32 → SI → SF → Prop)  (I : SI) (F : SF) : Prop := Post 1 I F
def wp_CJ_cellsFit (k1 : Nat) (p2 : Int32) (p3 : Int32) (I : SI) (F : SF) (Post : Int32 → SI → SF → Prop) : Prop := ∃ P1 : Int32 → SI → SF → Prop, wp_Me_takesArray k1 p2 I F P1 ∧ ∀ r1 I1 F1, P1 r1 I1 F1 → ((r1 = 0 → (wp_CJ_cellsFit_18 Post I1 F1)) ∧ (¬ r1 = 0 → (∃ P3 : Int32 → SI → SF → Prop, wp_CJ_isBelow p3 401 I1 F1 P3 ∧ ∀ r3 I3 F3, P3 r3 I3 F3 → ((r3 = 0 → (Post 0 I3 F3)) ∧ (¬ r3 = 0 → (wp_CJ_cellsFit_18 Post I3 F3))))))
set_option maxHeartbeats 4000000 in
set_option maxRecDepth 100000 in
theorem c_CJ_cellsFit (l : Launch) (D : va_G) (a : Nat → Nat) (cI cZ cQ : ClassId) (hJ : xJ 47 a) (I : SI) (F : SF) (k1 : Nat) (p2 : Int32) (p3 : Int32) (hk1 : k1 < 8) (sz : Nat) (Post : Int32 → SI → SF → Prop) (hw : wp_CJ_cellsFit k1 p2 p3 I F Post) : Met l y_CJ_cellsFit (Cond.code y_CJ_cellsFit b_CJ_cellsFit 3 (some .boolean) :: TB) { frames := 1, cells := 0, slots := 0, locals := 21 } (va_Pc [.ref (a (23 + 3 * k1)), .int p2, .int p3] (cP D a cI cZ cQ I F sz)) (va_Qi (fun r (u : SI × SF) => Post r u.1 u.2) (fun u t => va_P D vwCl (cw a cI cZ cQ u.1 u.2) t.heap) (xA 47 a sz)) 0 0 (xA 47 a sz) := by
  refine Met.ofW (cc := b_CJ_cellsFit) (maxL := 3) (ret := (some .boolean)) (by decide) rfl ?_
  intro p e s m args below meth c s₁ B hml hv
  obtain ⟨rfl, rfl, hP, hK, hN⟩ := hv
  have hx := B.exec
  have hb := B.bytes
  have hr := B.returns
  have hts : ∀ w ∈ TB, w.before _ s = true := fun w h => atoms_spec (ws := Cond.code y_CJ_cellsFit b_CJ_cellsFit 3 (some .boolean) :: TB) B.pre w (List.mem_cons_of_mem _ h)
  have hown : s.vm.findClass "CodeJudge" = some m.cls := findClass_of_methodNamed B.named
  have hlocks := B.notSynchronized
  have hl := lv_entry ([.ref (a (23 + 3 * k1)), .int p2, .int p3]) (n := 3) (Nat.le_of_ble_eq_true rfl)
  rw [lg_entry_eq]
  generalize (lg_sl ([.ref (a (23 + 3 * k1)), .int p2, .int p3]) ++ List.replicate (3 - (lg_sl ([.ref (a (23 + 3 * k1)), .int p2, .int p3])).length) Slot.unset).toArray = ls at hl ⊢
  have hl : lv_has ls 3 [(0, .ref (a (23 + 3 * k1))), (1, .int p2), (2, .int p3)] := hl
  obtain ⟨Q, hQ⟩ : ∃ Q, Q = MQ below (va_Qi (fun r (u : SI × SF) => Post r u.1 u.2) (fun u t => va_P D vwCl (cw a cI cZ cQ u.1 u.2) t.heap) (xA 47 a s.heap.size)) ([.ref (a (23 + 3 * k1)), .int p2, .int p3]).toArray s 0 0 (xA 47 a s.heap.size) := ⟨_, rfl⟩
  rw [← hQ]
  have J18 : ∀ (I : SI) (F : SF) (H : Heap) (locs : List Loc) (ls : Array Slot), lv_has ls 3 [] → va_P D vwCl (cw a cI cZ cQ I F) H → va_S (xA 47 a s.heap.size) s.heap H locs → wp_CJ_cellsFit_18 Post I F → W p l e (headSpec (Cond.code y_CJ_cellsFit b_CJ_cellsFit 3 (some .boolean) :: TB) { frames := 1, cells := 0, slots := 0, locals := 21 }).room s m ([.ref (a (23 + 3 * k1)), .int p2, .int p3]).toArray below meth c H locs 0 0 Q (F0 m 18 ls []) := by
    intro I F H locs ls hl hP hS hw
    dsimp only [wp_CJ_cellsFit_18] at hw
    refine lv_iconst (v := 1) hx hb dCJ_cellsFit_18 (by decide) ?_
    refine lv_goto (tgt := 23) hx hb dCJ_cellsFit_19 (by decide) ?_
    rw [hQ]
    exact W.zret (v := 1) hx hb hr rfl (fun t ht hW => ⟨⟨1, (I, F), rfl, hw, by subst ht; exact hP⟩, hS.F ht⟩) hS.2.2 dCJ_cellsFit_23
  suffices hM : ∀ (H : Heap) (locs : List Loc), va_P D vwCl (cw a cI cZ cQ I F) H → va_S (xA 47 a s.heap.size) s.heap H locs → W p l e (headSpec (Cond.code y_CJ_cellsFit b_CJ_cellsFit 3 (some .boolean) :: TB) { frames := 1, cells := 0, slots := 0, locals := 21 }).room s m ([.ref (a (23 + 3 * k1)), .int p2, .int p3]).toArray below meth c H locs 0 0 (Q) (F0 m 0 ls []) from hM s.heap [] hP va_S.rf
  clear hP
  intro H locs hP hS
  dsimp only [wp_CJ_cellsFit] at hw
  refine lv_aload_n hx hb dCJ_cellsFit_0 rfl (lv_at hl 0 rfl) ?_
  refine lv_iload_n hx hb dCJ_cellsFit_1 rfl (lv_at hl 1 rfl) ?_
  obtain ⟨P1, hc1, hw⟩ := hw
  refine cc_i (va_runV (As := [.int p2]) (rest := []) ⟨hx, hb, hml, hown, hts⟩ (c_Me_takesArray l D a cI cZ cQ hJ I F k1 p2 hk1 H.size P1 hc1) (cwV 1 hts (tb_V (C := "CodeJudge$Method") wc_Me_takesArray tw_3_51 tw_3_52 tw_3_53 tw_1_2) rfl rfl rfl (by decide +kernel) ⟨Nat.le_of_ble_eq_true rfl, Nat.le_of_ble_eq_true rfl⟩) ⟨cP_bl, va_recv hK hP rfl (cw_M hk1), cP_at hP hK hN⟩ rfl rfl hl.1 rfl (lv_room (Nat.le_of_ble_eq_true rfl)) dCJ_cellsFit_2 ⟨Nat.le_of_ble_eq_true rfl, Nat.le_of_ble_eq_true rfl⟩) hS (fun r1 I1 F1 H locs hP hp1 hS => ?_)
  have hw := hw r1 I1 F1 hp1
  refine lv_if_eq (tgt := 18) hx hb dCJ_cellsFit_5 (by decide) (fun h2 => ?_) (fun h2 => ?_)
  · have hw := hw.1 h2
    exact J18 I1 F1 H locs ls (lv_sub hl [] rfl) hP hS hw
  · have hw := hw.2 h2
    refine lv_iload_n hx hb dCJ_cellsFit_8 rfl (lv_at hl 2 rfl) ?_
    refine lv_sipush (v := 401) hx hb dCJ_cellsFit_9 (by decide) ?_
    obtain ⟨P3, hc3, hw⟩ := hw
    refine cc_i (va_runS (As := [.int p3, .int 401]) (rest := []) ⟨hx, hb, hml, hown, hts⟩ (c_CJ_isBelow l D a cI cZ cQ hJ I1 F1 p3 401 H.size P3 hc3) (va_cwS 2 hts (tb_S wc_CJ_isBelow tw_2_6 tw_2_7 tw_1_1) rfl rfl rfl (by decide +kernel) ⟨Nat.le_of_ble_eq_true rfl, Nat.le_of_ble_eq_true rfl⟩) ⟨cP_bl, cP_at hP hK hN⟩ rfl rfl hl.1 rfl (lv_room (Nat.le_of_ble_eq_true rfl)) dCJ_cellsFit_12 ⟨Nat.le_of_ble_eq_true rfl, Nat.le_of_ble_eq_true rfl⟩) hS (fun r3 I3 F3 H locs hP hp3 hS => ?_)
    have hw := hw r3 I3 F3 hp3
    refine lv_if_eq (tgt := 22) hx hb dCJ_cellsFit_15 (by decide) (fun h4 => ?_) (fun h4 => ?_)
    · have hw := hw.1 h4
      refine lv_iconst (v := 0) hx hb dCJ_cellsFit_22 (by decide) ?_
      rw [hQ]
      exact W.zret (v := 0) hx hb hr rfl (fun t ht hW => ⟨⟨0, (I3, F3), rfl, hw, by subst ht; exact hP⟩, hS.F ht⟩) hS.2.2 dCJ_cellsFit_23
    · have hw := hw.2 h4
      exact J18 I3 F3 H locs ls (lv_sub hl [] rfl) hP hS hw
def wp_CJ_share (k1 : Nat) (p2 : Int32) (I : SI) (F : SF) (Post : Int32 → SI → SF → Prop) : Prop := (¬ p2 = 0 → ((¬ p2 = 1 → (∃ P3 : Int32 → SI → SF → Prop, wp_Ju_approves k1 I F P3 ∧ ∀ r3 I3 F3, P3 r3 I3 F3 → ((r3 = 0 → (Post 0 I3 F3)) ∧ (¬ r3 = 0 → (Post 1 I3 F3))))) ∧ (p2 = 1 → (Post (I (26 + 10 * k1)) I F)))) ∧ (p2 = 0 → (Post 1 I F))
set_option maxHeartbeats 4000000 in
set_option maxRecDepth 100000 in
theorem c_CJ_share (l : Launch) (D : va_G) (a : Nat → Nat) (cI cZ cQ : ClassId) (hJ : xJ 47 a) (I : SI) (F : SF) (k1 : Nat) (p2 : Int32) (hk1 : k1 < 8) (sz : Nat) (Post : Int32 → SI → SF → Prop) (hw : wp_CJ_share k1 p2 I F Post) : Met l y_CJ_share (Cond.code y_CJ_share b_CJ_share 3 (some .int) :: TB) { frames := 5, cells := 0, slots := 0, locals := 115 } (va_Pc [.ref (a 0), .ref (a (23 + 3 * k1)), .int p2] (cP D a cI cZ cQ I F sz)) (va_Qi (fun r (u : SI × SF) => Post r u.1 u.2) (fun u t => va_P D vwCl (cw a cI cZ cQ u.1 u.2) t.heap) (xA 47 a sz)) 0 0 (xA 47 a sz) := by
  refine Met.ofW (cc := b_CJ_share) (maxL := 3) (ret := (some .int)) (by decide) rfl ?_
  intro p e s m args below meth c s₁ B hml hv
  obtain ⟨rfl, rfl, hP, hK, hN⟩ := hv
  have hx := B.exec
  have hb := B.bytes
  have hr := B.returns
  have hts : ∀ w ∈ TB, w.before _ s = true := fun w h => atoms_spec (ws := Cond.code y_CJ_share b_CJ_share 3 (some .int) :: TB) B.pre w (List.mem_cons_of_mem _ h)
  have hown : s.vm.findClass "CodeJudge" = some m.cls := findClass_of_methodNamed B.named
  have hlocks := B.notSynchronized
  have hl := lv_entry ([.ref (a 0), .ref (a (23 + 3 * k1)), .int p2]) (n := 3) (Nat.le_of_ble_eq_true rfl)
  rw [lg_entry_eq]
  generalize (lg_sl ([.ref (a 0), .ref (a (23 + 3 * k1)), .int p2]) ++ List.replicate (3 - (lg_sl ([.ref (a 0), .ref (a (23 + 3 * k1)), .int p2])).length) Slot.unset).toArray = ls at hl ⊢
  have hl : lv_has ls 3 [(0, .ref (a 0)), (1, .ref (a (23 + 3 * k1))), (2, .int p2)] := hl
  suffices hM : ∀ (H : Heap) (locs : List Loc), va_P D vwCl (cw a cI cZ cQ I F) H → va_S (xA 47 a s.heap.size) s.heap H locs → W p l e (headSpec (Cond.code y_CJ_share b_CJ_share 3 (some .int) :: TB) { frames := 5, cells := 0, slots := 0, locals := 115 }).room s m ([.ref (a 0), .ref (a (23 + 3 * k1)), .int p2]).toArray below meth c H locs 0 0 (MQ below (va_Qi (fun r (u : SI × SF) => Post r u.1 u.2) (fun u t => va_P D vwCl (cw a cI cZ cQ u.1 u.2) t.heap) (xA 47 a s.heap.size)) ([.ref (a 0), .ref (a (23 + 3 * k1)), .int p2]).toArray s 0 0 (xA 47 a s.heap.size)) (F0 m 0 ls []) from hM s.heap [] hP va_S.rf
  clear hP
  intro H locs hP hS
  dsimp only [wp_CJ_share] at hw
  refine lv_iload_n hx hb dCJ_share_0 rfl (lv_at hl 2 rfl) ?_
  refine lv_if_ne (tgt := 6) hx hb dCJ_share_1 (by decide) (fun h1 => ?_) (fun h1 => ?_)
  · have hw := hw.1 h1
    refine lv_iload_n hx hb dCJ_share_6 rfl (lv_at hl 2 rfl) ?_
    refine lv_iconst (v := 1) hx hb dCJ_share_7 (by decide) ?_
    refine lv_icmp_ne (tgt := 16) hx hb dCJ_share_8 (by decide) (fun h2 => ?_) (fun h2 => ?_)
    · have hw := hw.1 h2
      refine lv_aload_n hx hb dCJ_share_16 rfl (lv_at hl 0 rfl) ?_
      refine va_get (D := D) (v := .ref (a 2)) (ci := 7) (C := "CodeJudge") (T := T_CJ) (N := 3) hx hb hts in_CJ hown hK hP 0 cw_0 rfl 1 (by decide) (hts (.fieldLink "CodeJudge" 19 "CodeJudge" "judge" "LCodeJudge$Judge;") tw_1_228) (fun _ h9 => h9) rfl dCJ_share_17 ?_
      refine lv_aload_n hx hb dCJ_share_20 rfl (lv_at hl 0 rfl) ?_
      refine va_get (D := D) (v := .ref (a 1)) (ci := 7) (C := "CodeJudge") (T := T_CJ) (N := 3) hx hb hts in_CJ hown hK hP 0 cw_0 rfl 0 (by decide) (hts (.fieldLink "CodeJudge" 11 "CodeJudge" "methods" "[LCodeJudge$Method;") tw_1_227) (fun _ h9 => h9) rfl dCJ_share_21 ?_
      refine lv_aload_n hx hb dCJ_share_24 rfl (lv_at hl 1 rfl) ?_
      obtain ⟨P3, hc3, hw⟩ := hw
      refine cc_i (va_runV (As := [.ref (a 1), .ref (a (23 + 3 * k1))]) (rest := []) ⟨hx, hb, hml, hown, hts⟩ (c_Ju_approves l D a cI cZ cQ hJ I F k1 hk1 H.size P3 hc3) (cwV 2 hts (tb_V (C := "CodeJudge$Judge") wc_Ju_approves tw_2_169 tw_2_170 tw_2_171 tw_1_3) rfl rfl rfl (by decide +kernel) ⟨Nat.le_of_ble_eq_true rfl, Nat.le_of_ble_eq_true rfl⟩) ⟨cP_bl, va_recv hK hP rfl cw_2, cP_at hP hK hN⟩ rfl rfl hl.1 rfl (lv_room (Nat.le_of_ble_eq_true rfl)) dCJ_share_25 ⟨Nat.le_of_ble_eq_true rfl, Nat.le_of_ble_eq_true rfl⟩) hS (fun r3 I3 F3 H locs hP hp3 hS => ?_)
      have hw := hw r3 I3 F3 hp3
      refine lv_if_eq (tgt := 35) hx hb dCJ_share_28 (by decide) (fun h4 => ?_) (fun h4 => ?_)
      · have hw := hw.1 h4
        refine lv_iconst (v := 0) hx hb dCJ_share_35 (by decide) ?_
        exact W.iret (v := 0) hx hb hr (fun t ht hW => ⟨⟨0, (I3, F3), rfl, hw, by subst ht; exact hP⟩, hS.F ht⟩) hS.2.2 dCJ_share_36
      · have hw := hw.2 h4
        refine lv_iconst (v := 1) hx hb dCJ_share_31 (by decide) ?_
        refine lv_goto (tgt := 36) hx hb dCJ_share_32 (by decide) ?_
        exact W.iret (v := 1) hx hb hr (fun t ht hW => ⟨⟨1, (I3, F3), rfl, hw, by subst ht; exact hP⟩, hS.F ht⟩) hS.2.2 dCJ_share_36
    · have hw := hw.2 h2
      refine lv_aload_n hx hb dCJ_share_11 rfl (lv_at hl 1 rfl) ?_
      refine va_get (D := D) (v := .int (I (26 + 10 * k1))) (ci := 4) (C := "CodeJudge$Method") (T := T_Me) (N := 9) hx hb hts in_Me hown hK hP (23 + 3 * k1) (cw_M hk1) rfl 6 (by decide) (hts (.fieldLink "CodeJudge" 57 "CodeJudge$Method" "size" "I") tw_1_51) (fun _ h9 => h9) rfl dCJ_share_12 ?_
      exact W.iret (v := (I (26 + 10 * k1))) hx hb hr (fun t ht hW => ⟨⟨(I (26 + 10 * k1)), (I, F), rfl, hw, by subst ht; exact hP⟩, hS.F ht⟩) hS.2.2 dCJ_share_15
  · have hw := hw.2 h1
    refine lv_iconst (v := 1) hx hb dCJ_share_4 (by decide) ?_
    exact W.iret (v := 1) hx hb hr (fun t ht hW => ⟨⟨1, (I, F), rfl, hw, by subst ht; exact hP⟩, hS.F ht⟩) hS.2.2 dCJ_share_5
def wp_Fr_enter_42 (Post : SI → SF → Prop) : Nat → Int32 → SI → SF → Prop
  | 0 => fun _ _ _ => False
  | n + 1 => fun x2 I F => (10 ≤ x2 → (Post (va_up I 9 ((I 9) + 1)) F)) ∧ (¬ 10 ≤ x2 → (vp_in (((I 9) * 10) + x2) 500 ∧ (∀ x7 : Int32, x7 = x2 + 1 → ((wp_Fr_enter_42 Post n) x7 I (va_up F 17 (upd (F 17) (((I 9) * 10) + x2 : Int32).toNatClampNeg 0))))))
def wp_Fr_enter (p1 : Int32) (I : SI) (F : SF) (Post : SI → SF → Prop) : Prop := ((I 9) < 50 → (vp_in (I 9) 50 ∧ (vp_in (I 9) 50 ∧ (vp_in (I 9) 50 ∧ (∃ q42, wp_Fr_enter_42 Post q42 0 I (va_up (va_up (va_up F 14 (upd (F 14) (I 9 : Int32).toNatClampNeg p1)) 15 (upd (F 15) (I 9 : Int32).toNatClampNeg 0)) 16 (upd (F 16) (I 9 : Int32).toNatClampNeg 0))))))) ∧ (¬ (I 9) < 50 → (Post I F))
set_option maxHeartbeats 4000000 in
set_option maxRecDepth 100000 in
theorem c_Fr_enter (l : Launch) (D : va_G) (a : Nat → Nat) (cI cZ cQ : ClassId) (hJ : xJ 47 a) (I : SI) (F : SF) (p1 : Int32) (sz : Nat) (Post : SI → SF → Prop) (hw : wp_Fr_enter p1 I F Post) : Met l y_Fr_enter (Cond.code y_Fr_enter b_Fr_enter 3 none :: TB) { frames := 0, cells := 0, slots := 0, locals := 0 } (va_Pc [.ref (a 11), .int p1] (cP D a cI cZ cQ I F sz)) (va_Qv (fun (u : SI × SF) => Post u.1 u.2) (fun u t => va_P D vwCl (cw a cI cZ cQ u.1 u.2) t.heap) (xA 47 a sz)) 0 0 (xA 47 a sz) := by
  refine Met.ofW (cc := b_Fr_enter) (maxL := 3) (ret := none) (by decide) rfl ?_
  intro p e s m args below meth c s₁ B hml hv
  obtain ⟨rfl, rfl, hP, hK, hN⟩ := hv
  have hx := B.exec
  have hb := B.bytes
  have hr := B.returns
  have hts : ∀ w ∈ TB, w.before _ s = true := fun w h => atoms_spec (ws := Cond.code y_Fr_enter b_Fr_enter 3 none :: TB) B.pre w (List.mem_cons_of_mem _ h)
  have hown : s.vm.findClass "CodeJudge$Frames" = some m.cls := findClass_of_methodNamed B.named
  have hlocks := B.notSynchronized
  have hl := lv_entry ([.ref (a 11), .int p1]) (n := 3) (Nat.le_of_ble_eq_true rfl)
  rw [lg_entry_eq]
  generalize (lg_sl ([.ref (a 11), .int p1]) ++ List.replicate (3 - (lg_sl ([.ref (a 11), .int p1])).length) Slot.unset).toArray = ls at hl ⊢
  have hl : lv_has ls 3 [(0, .ref (a 11)), (1, .int p1)] := hl
  obtain ⟨Q, hQ⟩ : ∃ Q, Q = MQ below (va_Qv (fun (u : SI × SF) => Post u.1 u.2) (fun u t => va_P D vwCl (cw a cI cZ cQ u.1 u.2) t.heap) (xA 47 a s.heap.size)) ([.ref (a 11), .int p1]).toArray s 0 0 (xA 47 a s.heap.size) := ⟨_, rfl⟩
  rw [← hQ]
  have J42 : ∀ n : Nat, ∀ (x2 : Int32) (I : SI) (F : SF) (H : Heap) (locs : List Loc) (ls : Array Slot), lv_has ls 3 [(0, .ref (a 11)), (2, .int x2)] → va_P D vwCl (cw a cI cZ cQ I F) H → va_S (xA 47 a s.heap.size) s.heap H locs → wp_Fr_enter_42 Post n x2 I F → W p l e (headSpec (Cond.code y_Fr_enter b_Fr_enter 3 none :: TB) { frames := 0, cells := 0, slots := 0, locals := 0 }).room s m ([.ref (a 11), .int p1]).toArray below meth c H locs 0 0 Q (F0 m 42 ls []) := by
    intro n42
    induction n42 with
    | zero =>
      intro x2 I F H locs ls hl hP hS hw
      exact False.elim hw
    | succ n42 ih42 =>
      intro x2 I F H locs ls hl hP hS hw
      dsimp only [wp_Fr_enter_42] at hw
      refine lv_iload_n hx hb dFr_enter_42 rfl (lv_at hl 1 rfl) ?_
      refine lv_bipush (v := 10) hx hb dFr_enter_43 (by decide) ?_
      refine lv_icmp_ge (tgt := 69) hx hb dFr_enter_45 (by decide) (fun h5 => ?_) (fun h5 => ?_)
      · have hw := hw.1 h5
        refine lv_aload_n hx hb dFr_enter_69 rfl (lv_at hl 0 rfl) ?_
        refine lv_dup hx hb dFr_enter_70 rfl ?_
        refine va_get (D := D) (v := .int (I 9)) (ci := 0) (C := "CodeJudge$Frames") (T := T_Fr) (N := 6) hx hb hts in_Fr hown hK hP 11 cw_11 rfl 0 (by decide) (hts (.fieldLink "CodeJudge$Frames" 27 "CodeJudge$Frames" "open" "I") tw_1_142) (fun _ h9 => h9) rfl dFr_enter_71 ?_
        refine lv_iconst (v := 1) hx hb dFr_enter_74 (by decide) ?_
        refine lv_iadd hx hb dFr_enter_75 ?_
        refine va_put (D := D) (ci := 0) (v := .int ((I 9) + 1)) (ty := .int) (C := "CodeJudge$Frames") (T := T_Fr) (N := 6) hx hb hts in_Fr ty_Fr ok_Fr nm_Fr hown hK hP (cD hJ) hS 11 cw_11 rfl 0 (by decide) (hts (.fieldLink "CodeJudge$Frames" 27 "CodeJudge$Frames" "open" "I") tw_1_142) (fun _ h9 => h9) rfl (by decide +kernel) rfl rfl (Nat.le_of_ble_eq_true rfl) dFr_enter_76 (fun H locs hP _ hS => ?_)
        have hP := cwp_9 hP
        rw [hQ]
        exact W.vret hx hb hr (fun t ht hW => ⟨⟨((va_up I 9 ((I 9) + 1)), F), rfl, hw, by subst ht; exact hP⟩, hS.F ht⟩) hS.2.2 dFr_enter_79
      · have hw := hw.2 h5
        refine lv_aload_n hx hb dFr_enter_48 rfl (lv_at hl 0 rfl) ?_
        refine va_get (D := D) (v := .ref (a 17)) (ci := 0) (C := "CodeJudge$Frames") (T := T_Fr) (N := 6) hx hb hts in_Fr hown hK hP 11 cw_11 rfl 4 (by decide) (hts (.fieldLink "CodeJudge$Frames" 21 "CodeJudge$Frames" "locals" "[I") tw_1_148) (fun _ h9 => h9) rfl dFr_enter_49 ?_
        refine lv_aload_n hx hb dFr_enter_52 rfl (lv_at hl 0 rfl) ?_
        refine va_get (D := D) (v := .int (I 9)) (ci := 0) (C := "CodeJudge$Frames") (T := T_Fr) (N := 6) hx hb hts in_Fr hown hK hP 11 cw_11 rfl 0 (by decide) (hts (.fieldLink "CodeJudge$Frames" 27 "CodeJudge$Frames" "open" "I") tw_1_142) (fun _ h9 => h9) rfl dFr_enter_53 ?_
        refine lv_bipush (v := 10) hx hb dFr_enter_56 (by decide) ?_
        refine lv_imul hx hb dFr_enter_58 ?_
        refine lv_iload_n hx hb dFr_enter_59 rfl (lv_at hl 1 rfl) ?_
        refine lv_iadd hx hb dFr_enter_60 ?_
        refine lv_iconst (v := 0) hx hb dFr_enter_61 (by decide) ?_
        obtain ⟨h6, hw⟩ := hw
        refine va_iast hx hb hK hP (cD hJ) hS 17 0 cw_17 rfl h6 dFr_enter_62 (fun H locs hP _ hS => ?_)
        have hP := cwa_17 hP
        obtain ⟨x7, e_x7⟩ : ∃ z : Int32, z = x2 + 1 := ⟨_, rfl⟩
        have hw := hw x7 e_x7
        refine lv_iinc (k := 1) (v := x7) (lv' := [(2, .int x7), (0, .ref (a 11))]) hx hb dFr_enter_63 hl rfl (e_x7 ▸ (by first | rfl | decide)) (by decide) rfl (fun ls hl => ?_)
        refine lv_goto (tgt := 42) hx hb dFr_enter_66 (by decide) ?_
        exact ih42 x7 I (va_up F 17 (upd (F 17) (((I 9) * 10) + x2 : Int32).toNatClampNeg 0)) H locs ls (lv_sub hl [1, 0] rfl) hP hS hw
  suffices hM : ∀ (H : Heap) (locs : List Loc), va_P D vwCl (cw a cI cZ cQ I F) H → va_S (xA 47 a s.heap.size) s.heap H locs → W p l e (headSpec (Cond.code y_Fr_enter b_Fr_enter 3 none :: TB) { frames := 0, cells := 0, slots := 0, locals := 0 }).room s m ([.ref (a 11), .int p1]).toArray below meth c H locs 0 0 (Q) (F0 m 0 ls []) from hM s.heap [] hP va_S.rf
  clear hP
  intro H locs hP hS
  dsimp only [wp_Fr_enter] at hw
  refine lv_aload_n hx hb dFr_enter_0 rfl (lv_at hl 0 rfl) ?_
  refine va_get (D := D) (v := .int (I 9)) (ci := 0) (C := "CodeJudge$Frames") (T := T_Fr) (N := 6) hx hb hts in_Fr hown hK hP 11 cw_11 rfl 0 (by decide) (hts (.fieldLink "CodeJudge$Frames" 27 "CodeJudge$Frames" "open" "I") tw_1_142) (fun _ h9 => h9) rfl dFr_enter_1 ?_
  refine lv_bipush (v := 50) hx hb dFr_enter_4 (by decide) ?_
  refine lv_icmp_lt (tgt := 10) hx hb dFr_enter_6 (by decide) (fun h1 => ?_) (fun h1 => ?_)
  · have hw := hw.1 h1
    refine lv_aload_n hx hb dFr_enter_10 rfl (lv_at hl 0 rfl) ?_
    refine va_get (D := D) (v := .ref (a 14)) (ci := 0) (C := "CodeJudge$Frames") (T := T_Fr) (N := 6) hx hb hts in_Fr hown hK hP 11 cw_11 rfl 1 (by decide) (hts (.fieldLink "CodeJudge$Frames" 11 "CodeJudge$Frames" "numbers" "[I") tw_1_145) (fun _ h9 => h9) rfl dFr_enter_11 ?_
    refine lv_aload_n hx hb dFr_enter_14 rfl (lv_at hl 0 rfl) ?_
    refine va_get (D := D) (v := .int (I 9)) (ci := 0) (C := "CodeJudge$Frames") (T := T_Fr) (N := 6) hx hb hts in_Fr hown hK hP 11 cw_11 rfl 0 (by decide) (hts (.fieldLink "CodeJudge$Frames" 27 "CodeJudge$Frames" "open" "I") tw_1_142) (fun _ h9 => h9) rfl dFr_enter_15 ?_
    refine lv_iload_n hx hb dFr_enter_18 rfl (lv_at hl 1 rfl) ?_
    obtain ⟨h2, hw⟩ := hw
    refine va_iast hx hb hK hP (cD hJ) hS 14 0 cw_14 rfl h2 dFr_enter_19 (fun H locs hP _ hS => ?_)
    have hP := cwa_14 hP
    refine lv_aload_n hx hb dFr_enter_20 rfl (lv_at hl 0 rfl) ?_
    refine va_get (D := D) (v := .ref (a 15)) (ci := 0) (C := "CodeJudge$Frames") (T := T_Fr) (N := 6) hx hb hts in_Fr hown hK hP 11 cw_11 rfl 2 (by decide) (hts (.fieldLink "CodeJudge$Frames" 15 "CodeJudge$Frames" "places" "[I") tw_1_146) (fun _ h9 => h9) rfl dFr_enter_21 ?_
    refine lv_aload_n hx hb dFr_enter_24 rfl (lv_at hl 0 rfl) ?_
    refine va_get (D := D) (v := .int (I 9)) (ci := 0) (C := "CodeJudge$Frames") (T := T_Fr) (N := 6) hx hb hts in_Fr hown hK hP 11 cw_11 rfl 0 (by decide) (hts (.fieldLink "CodeJudge$Frames" 27 "CodeJudge$Frames" "open" "I") tw_1_142) (fun _ h9 => h9) rfl dFr_enter_25 ?_
    refine lv_iconst (v := 0) hx hb dFr_enter_28 (by decide) ?_
    obtain ⟨h3, hw⟩ := hw
    refine va_iast hx hb hK hP (cD hJ) hS 15 0 cw_15 rfl h3 dFr_enter_29 (fun H locs hP _ hS => ?_)
    have hP := cwa_15 hP
    refine lv_aload_n hx hb dFr_enter_30 rfl (lv_at hl 0 rfl) ?_
    refine va_get (D := D) (v := .ref (a 16)) (ci := 0) (C := "CodeJudge$Frames") (T := T_Fr) (N := 6) hx hb hts in_Fr hown hK hP 11 cw_11 rfl 3 (by decide) (hts (.fieldLink "CodeJudge$Frames" 18 "CodeJudge$Frames" "heights" "[I") tw_1_147) (fun _ h9 => h9) rfl dFr_enter_31 ?_
    refine lv_aload_n hx hb dFr_enter_34 rfl (lv_at hl 0 rfl) ?_
    refine va_get (D := D) (v := .int (I 9)) (ci := 0) (C := "CodeJudge$Frames") (T := T_Fr) (N := 6) hx hb hts in_Fr hown hK hP 11 cw_11 rfl 0 (by decide) (hts (.fieldLink "CodeJudge$Frames" 27 "CodeJudge$Frames" "open" "I") tw_1_142) (fun _ h9 => h9) rfl dFr_enter_35 ?_
    refine lv_iconst (v := 0) hx hb dFr_enter_38 (by decide) ?_
    obtain ⟨h4, hw⟩ := hw
    refine va_iast hx hb hK hP (cD hJ) hS 16 0 cw_16 rfl h4 dFr_enter_39 (fun H locs hP _ hS => ?_)
    have hP := cwa_16 hP
    refine lv_iconst (v := 0) hx hb dFr_enter_40 (by decide) ?_
    refine lv_istore_n (lv' := [(2, .int 0), (0, .ref (a 11)), (1, .int p1)]) hx hb dFr_enter_41 rfl hl (by decide) rfl (fun ls hl => ?_)
    obtain ⟨n42, hw⟩ := hw
    exact J42 n42 0 I (va_up (va_up (va_up F 14 (upd (F 14) (I 9 : Int32).toNatClampNeg p1)) 15 (upd (F 15) (I 9 : Int32).toNatClampNeg 0)) 16 (upd (F 16) (I 9 : Int32).toNatClampNeg 0)) H locs ls (lv_sub hl [1, 0] rfl) hP hS hw
  · have hw := hw.2 h1
    rw [hQ]
    exact W.vret hx hb hr (fun t ht hW => ⟨⟨(I, F), rfl, hw, by subst ht; exact hP⟩, hS.F ht⟩) hS.2.2 dFr_enter_9
def wp_Fr_setLocal (p1 : Int32) (p2 : Int32) (I : SI) (F : SF) (Post : SI → SF → Prop) : Prop := ((I 9) ≤ 0 → (Post I F)) ∧ (¬ (I 9) ≤ 0 → (∃ P2 : Int32 → SI → SF → Prop, wp_CJ_isBelow p1 10 I F P2 ∧ ∀ r2 I2 F2, P2 r2 I2 F2 → ((r2 = 0 → (Post I2 F2)) ∧ (¬ r2 = 0 → (vp_in ((((I2 9) - 1) * 10) + p1) 500 ∧ (Post I2 (va_up F2 17 (upd (F2 17) ((((I2 9) - 1) * 10) + p1 : Int32).toNatClampNeg p2))))))))
set_option maxHeartbeats 4000000 in
set_option maxRecDepth 100000 in
theorem c_Fr_setLocal (l : Launch) (D : va_G) (a : Nat → Nat) (cI cZ cQ : ClassId) (hJ : xJ 47 a) (I : SI) (F : SF) (p1 : Int32) (p2 : Int32) (sz : Nat) (Post : SI → SF → Prop) (hw : wp_Fr_setLocal p1 p2 I F Post) : Met l y_Fr_setLocal (Cond.code y_Fr_setLocal b_Fr_setLocal 3 none :: TB) { frames := 1, cells := 0, slots := 0, locals := 21 } (va_Pc [.ref (a 11), .int p1, .int p2] (cP D a cI cZ cQ I F sz)) (va_Qv (fun (u : SI × SF) => Post u.1 u.2) (fun u t => va_P D vwCl (cw a cI cZ cQ u.1 u.2) t.heap) (xA 47 a sz)) 0 0 (xA 47 a sz) := by
  refine Met.ofW (cc := b_Fr_setLocal) (maxL := 3) (ret := none) (by decide) rfl ?_
  intro p e s m args below meth c s₁ B hml hv
  obtain ⟨rfl, rfl, hP, hK, hN⟩ := hv
  have hx := B.exec
  have hb := B.bytes
  have hr := B.returns
  have hts : ∀ w ∈ TB, w.before _ s = true := fun w h => atoms_spec (ws := Cond.code y_Fr_setLocal b_Fr_setLocal 3 none :: TB) B.pre w (List.mem_cons_of_mem _ h)
  have hown : s.vm.findClass "CodeJudge$Frames" = some m.cls := findClass_of_methodNamed B.named
  have hlocks := B.notSynchronized
  have hl := lv_entry ([.ref (a 11), .int p1, .int p2]) (n := 3) (Nat.le_of_ble_eq_true rfl)
  rw [lg_entry_eq]
  generalize (lg_sl ([.ref (a 11), .int p1, .int p2]) ++ List.replicate (3 - (lg_sl ([.ref (a 11), .int p1, .int p2])).length) Slot.unset).toArray = ls at hl ⊢
  have hl : lv_has ls 3 [(0, .ref (a 11)), (1, .int p1), (2, .int p2)] := hl
  suffices hM : ∀ (H : Heap) (locs : List Loc), va_P D vwCl (cw a cI cZ cQ I F) H → va_S (xA 47 a s.heap.size) s.heap H locs → W p l e (headSpec (Cond.code y_Fr_setLocal b_Fr_setLocal 3 none :: TB) { frames := 1, cells := 0, slots := 0, locals := 21 }).room s m ([.ref (a 11), .int p1, .int p2]).toArray below meth c H locs 0 0 (MQ below (va_Qv (fun (u : SI × SF) => Post u.1 u.2) (fun u t => va_P D vwCl (cw a cI cZ cQ u.1 u.2) t.heap) (xA 47 a s.heap.size)) ([.ref (a 11), .int p1, .int p2]).toArray s 0 0 (xA 47 a s.heap.size)) (F0 m 0 ls []) from hM s.heap [] hP va_S.rf
  clear hP
  intro H locs hP hS
  dsimp only [wp_Fr_setLocal] at hw
  refine lv_aload_n hx hb dFr_setLocal_0 rfl (lv_at hl 0 rfl) ?_
  refine va_get (D := D) (v := .int (I 9)) (ci := 0) (C := "CodeJudge$Frames") (T := T_Fr) (N := 6) hx hb hts in_Fr hown hK hP 11 cw_11 rfl 0 (by decide) (hts (.fieldLink "CodeJudge$Frames" 27 "CodeJudge$Frames" "open" "I") tw_1_142) (fun _ h9 => h9) rfl dFr_setLocal_1 ?_
  refine lv_if_le (tgt := 33) hx hb dFr_setLocal_4 (by decide) (fun h1 => ?_) (fun h1 => ?_)
  · have hw := hw.1 h1
    exact W.vret hx hb hr (fun t ht hW => ⟨⟨(I, F), rfl, hw, by subst ht; exact hP⟩, hS.F ht⟩) hS.2.2 dFr_setLocal_33
  · have hw := hw.2 h1
    refine lv_iload_n hx hb dFr_setLocal_7 rfl (lv_at hl 1 rfl) ?_
    refine lv_bipush (v := 10) hx hb dFr_setLocal_8 (by decide) ?_
    obtain ⟨P2, hc2, hw⟩ := hw
    refine cc_i (va_runSN (As := [.int p1, .int 10]) (rest := []) ⟨hx, hb, hml, hown, hts⟩ (c_CJ_isBelow l D a cI cZ cQ hJ I F p1 10 H.size P2 hc2) (⟨va_cnB 2 hts (tb_self wc_CJ_isBelow) rfl rfl rfl (hN ("CodeJudge$Frames", 39, ⟨"CodeJudge", "isBelow", "(II)Z"⟩, "CodeJudge") (by decide +kernel)) (hts (.initialized "CodeJudge") tw_1_1) (by decide +kernel) ⟨Nat.le_of_ble_eq_true rfl, Nat.le_of_ble_eq_true rfl⟩, hts (.static ⟨"CodeJudge", "isBelow", "(II)Z"⟩) tw_2_7, trivial⟩) ⟨cP_bl, cP_at hP hK hN⟩ rfl rfl hl.1 rfl (lv_room (Nat.le_of_ble_eq_true rfl)) dFr_setLocal_10 ⟨Nat.le_of_ble_eq_true rfl, Nat.le_of_ble_eq_true rfl⟩) hS (fun r2 I2 F2 H locs hP hp2 hS => ?_)
    have hw := hw r2 I2 F2 hp2
    refine lv_if_eq (tgt := 33) hx hb dFr_setLocal_13 (by decide) (fun h3 => ?_) (fun h3 => ?_)
    · have hw := hw.1 h3
      exact W.vret hx hb hr (fun t ht hW => ⟨⟨(I2, F2), rfl, hw, by subst ht; exact hP⟩, hS.F ht⟩) hS.2.2 dFr_setLocal_33
    · have hw := hw.2 h3
      refine lv_aload_n hx hb dFr_setLocal_16 rfl (lv_at hl 0 rfl) ?_
      refine va_get (D := D) (v := .ref (a 17)) (ci := 0) (C := "CodeJudge$Frames") (T := T_Fr) (N := 6) hx hb hts in_Fr hown hK hP 11 cw_11 rfl 4 (by decide) (hts (.fieldLink "CodeJudge$Frames" 21 "CodeJudge$Frames" "locals" "[I") tw_1_148) (fun _ h9 => h9) rfl dFr_setLocal_17 ?_
      refine lv_aload_n hx hb dFr_setLocal_20 rfl (lv_at hl 0 rfl) ?_
      refine va_get (D := D) (v := .int (I2 9)) (ci := 0) (C := "CodeJudge$Frames") (T := T_Fr) (N := 6) hx hb hts in_Fr hown hK hP 11 cw_11 rfl 0 (by decide) (hts (.fieldLink "CodeJudge$Frames" 27 "CodeJudge$Frames" "open" "I") tw_1_142) (fun _ h9 => h9) rfl dFr_setLocal_21 ?_
      refine lv_iconst (v := 1) hx hb dFr_setLocal_24 (by decide) ?_
      refine lv_isub hx hb dFr_setLocal_25 ?_
      refine lv_bipush (v := 10) hx hb dFr_setLocal_26 (by decide) ?_
      refine lv_imul hx hb dFr_setLocal_28 ?_
      refine lv_iload_n hx hb dFr_setLocal_29 rfl (lv_at hl 1 rfl) ?_
      refine lv_iadd hx hb dFr_setLocal_30 ?_
      refine lv_iload_n hx hb dFr_setLocal_31 rfl (lv_at hl 2 rfl) ?_
      obtain ⟨h4, hw⟩ := hw
      refine va_iast hx hb hK hP (cD hJ) hS 17 0 cw_17 rfl h4 dFr_setLocal_32 (fun H locs hP _ hS => ?_)
      have hP := cwa_17 hP
      exact W.vret hx hb hr (fun t ht hW => ⟨⟨(I2, (va_up F2 17 (upd (F2 17) ((((I2 9) - 1) * 10) + p1 : Int32).toNatClampNeg p2))), rfl, hw, by subst ht; exact hP⟩, hS.F ht⟩) hS.2.2 dFr_setLocal_33
def wp_Fr_enterWith_52 (Post : SI → SF → Prop) : Nat → Int32 → Int32 → Int32 → SI → SF → Prop
  | 0 => fun _ _ _ _ _ => False
  | n + 1 => fun x2 x3 x4 I F => (x2 ≤ x4 → (Post I F)) ∧ (¬ x2 ≤ x4 → (vp_in x3 50 ∧ (vp_in (((x3 * 15) + ((F 16) x3.toNatClampNeg)) + x4) 750 ∧ (∃ P12 : SI → SF → Prop, wp_Fr_setLocal x4 ((F 18) (((x3 * 15) + ((F 16) x3.toNatClampNeg)) + x4 : Int32).toNatClampNeg) I F P12 ∧ ∀ I12 F12, P12 I12 F12 → (∀ x13 : Int32, x13 = x4 + 1 → ((wp_Fr_enterWith_52 Post n) x2 x3 x13 I12 F12))))))
def wp_Fr_enterWith (p1 : Int32) (p2 : Int32) (I : SI) (F : SF) (Post : SI → SF → Prop) : Prop := ∀ x1 : Int32, x1 = (I 9) - 1 → (((I 9) = 0 → (Post I F)) ∧ (¬ (I 9) = 0 → ((50 ≤ (I 9) → (Post I F)) ∧ (¬ 50 ≤ (I 9) → (vp_in x1 50 ∧ ((p2 ≤ ((F 16) x1.toNatClampNeg) → (∃ P6 : SI → SF → Prop, wp_Fr_enter p1 I F P6 ∧ ∀ I6 F6, P6 I6 F6 → (vp_in x1 50 ∧ (vp_in x1 50 ∧ (∃ q52, wp_Fr_enterWith_52 Post q52 p2 x1 0 I6 (va_up F6 16 (upd (F6 16) x1.toNatClampNeg (((F6 16) x1.toNatClampNeg) - p2)))))))) ∧ (¬ p2 ≤ ((F 16) x1.toNatClampNeg) → (Post I F))))))))
set_option maxHeartbeats 4000000 in
set_option maxRecDepth 100000 in
theorem c_Fr_enterWith (l : Launch) (D : va_G) (a : Nat → Nat) (cI cZ cQ : ClassId) (hJ : xJ 47 a) (I : SI) (F : SF) (p1 : Int32) (p2 : Int32) (sz : Nat) (Post : SI → SF → Prop) (hw : wp_Fr_enterWith p1 p2 I F Post) : Met l y_Fr_enterWith (Cond.code y_Fr_enterWith b_Fr_enterWith 5 none :: TB) { frames := 2, cells := 0, slots := 0, locals := 43 } (va_Pc [.ref (a 11), .int p1, .int p2] (cP D a cI cZ cQ I F sz)) (va_Qv (fun (u : SI × SF) => Post u.1 u.2) (fun u t => va_P D vwCl (cw a cI cZ cQ u.1 u.2) t.heap) (xA 47 a sz)) 0 0 (xA 47 a sz) := by
  refine Met.ofW (cc := b_Fr_enterWith) (maxL := 5) (ret := none) (by decide) rfl ?_
  intro p e s m args below meth c s₁ B hml hv
  obtain ⟨rfl, rfl, hP, hK, hN⟩ := hv
  have hx := B.exec
  have hb := B.bytes
  have hr := B.returns
  have hts : ∀ w ∈ TB, w.before _ s = true := fun w h => atoms_spec (ws := Cond.code y_Fr_enterWith b_Fr_enterWith 5 none :: TB) B.pre w (List.mem_cons_of_mem _ h)
  have hown : s.vm.findClass "CodeJudge$Frames" = some m.cls := findClass_of_methodNamed B.named
  have hlocks := B.notSynchronized
  have hl := lv_entry ([.ref (a 11), .int p1, .int p2]) (n := 5) (Nat.le_of_ble_eq_true rfl)
  rw [lg_entry_eq]
  generalize (lg_sl ([.ref (a 11), .int p1, .int p2]) ++ List.replicate (5 - (lg_sl ([.ref (a 11), .int p1, .int p2])).length) Slot.unset).toArray = ls at hl ⊢
  have hl : lv_has ls 5 [(0, .ref (a 11)), (1, .int p1), (2, .int p2)] := hl
  obtain ⟨Q, hQ⟩ : ∃ Q, Q = MQ below (va_Qv (fun (u : SI × SF) => Post u.1 u.2) (fun u t => va_P D vwCl (cw a cI cZ cQ u.1 u.2) t.heap) (xA 47 a s.heap.size)) ([.ref (a 11), .int p1, .int p2]).toArray s 0 0 (xA 47 a s.heap.size) := ⟨_, rfl⟩
  rw [← hQ]
  have J52 : ∀ n : Nat, ∀ (x2 : Int32) (x3 : Int32) (x4 : Int32) (I : SI) (F : SF) (H : Heap) (locs : List Loc) (ls : Array Slot), lv_has ls 5 [(0, .ref (a 11)), (2, .int x2), (3, .int x3), (4, .int x4)] → va_P D vwCl (cw a cI cZ cQ I F) H → va_S (xA 47 a s.heap.size) s.heap H locs → wp_Fr_enterWith_52 Post n x2 x3 x4 I F → W p l e (headSpec (Cond.code y_Fr_enterWith b_Fr_enterWith 5 none :: TB) { frames := 2, cells := 0, slots := 0, locals := 43 }).room s m ([.ref (a 11), .int p1, .int p2]).toArray below meth c H locs 0 0 Q (F0 m 52 ls []) := by
    intro n52
    induction n52 with
    | zero =>
      intro x2 x3 x4 I F H locs ls hl hP hS hw
      exact False.elim hw
    | succ n52 ih52 =>
      intro x2 x3 x4 I F H locs ls hl hP hS hw
      dsimp only [wp_Fr_enterWith_52] at hw
      refine lv_iload hx hb dFr_enterWith_52 (lv_at hl 3 rfl) ?_
      refine lv_iload_n hx hb dFr_enterWith_54 rfl (lv_at hl 1 rfl) ?_
      refine lv_icmp_ge (tgt := 89) hx hb dFr_enterWith_55 (by decide) (fun h9 => ?_) (fun h9 => ?_)
      · have hw := hw.1 h9
        rw [hQ]
        exact W.vret hx hb hr (fun t ht hW => ⟨⟨(I, F), rfl, hw, by subst ht; exact hP⟩, hS.F ht⟩) hS.2.2 dFr_enterWith_89
      · have hw := hw.2 h9
        refine lv_aload_n hx hb dFr_enterWith_58 rfl (lv_at hl 0 rfl) ?_
        refine lv_iload hx hb dFr_enterWith_59 (lv_at hl 3 rfl) ?_
        refine lv_aload_n hx hb dFr_enterWith_61 rfl (lv_at hl 0 rfl) ?_
        refine va_get (D := D) (v := .ref (a 18)) (ci := 0) (C := "CodeJudge$Frames") (T := T_Fr) (N := 6) hx hb hts in_Fr hown hK hP 11 cw_11 rfl 5 (by decide) (hts (.fieldLink "CodeJudge$Frames" 24 "CodeJudge$Frames" "stacks" "[I") tw_1_149) (fun _ h9 => h9) rfl dFr_enterWith_62 ?_
        refine lv_iload_n hx hb dFr_enterWith_65 rfl (lv_at hl 2 rfl) ?_
        refine lv_bipush (v := 15) hx hb dFr_enterWith_66 (by decide) ?_
        refine lv_imul hx hb dFr_enterWith_68 ?_
        refine lv_aload_n hx hb dFr_enterWith_69 rfl (lv_at hl 0 rfl) ?_
        refine va_get (D := D) (v := .ref (a 16)) (ci := 0) (C := "CodeJudge$Frames") (T := T_Fr) (N := 6) hx hb hts in_Fr hown hK hP 11 cw_11 rfl 3 (by decide) (hts (.fieldLink "CodeJudge$Frames" 18 "CodeJudge$Frames" "heights" "[I") tw_1_147) (fun _ h9 => h9) rfl dFr_enterWith_70 ?_
        refine lv_iload_n hx hb dFr_enterWith_73 rfl (lv_at hl 2 rfl) ?_
        obtain ⟨h10, hw⟩ := hw
        refine va_iald hx hb hK hP 16 0 cw_16 rfl h10 dFr_enterWith_74 ?_
        refine lv_iadd hx hb dFr_enterWith_75 ?_
        refine lv_iload hx hb dFr_enterWith_76 (lv_at hl 3 rfl) ?_
        refine lv_iadd hx hb dFr_enterWith_78 ?_
        obtain ⟨h11, hw⟩ := hw
        refine va_iald hx hb hK hP 18 0 cw_18 rfl h11 dFr_enterWith_79 ?_
        obtain ⟨P12, hc12, hw⟩ := hw
        refine cc_v (va_runV (As := [.int x4, .int ((F 18) (((x3 * 15) + ((F 16) x3.toNatClampNeg)) + x4 : Int32).toNatClampNeg)]) (rest := []) ⟨hx, hb, hml, hown, hts⟩ (c_Fr_setLocal l D a cI cZ cQ hJ I F x4 ((F 18) (((x3 * 15) + ((F 16) x3.toNatClampNeg)) + x4 : Int32).toNatClampNeg) H.size P12 hc12) (cwV 2 hts (tb_V (C := "CodeJudge$Frames") wc_Fr_setLocal tw_3_191 tw_3_97 tw_3_98 tw_1_6) rfl rfl rfl (by decide +kernel) ⟨Nat.le_of_ble_eq_true rfl, Nat.le_of_ble_eq_true rfl⟩) ⟨cP_bl, va_recv hK hP rfl cw_11, cP_at hP hK hN⟩ rfl rfl hl.1 rfl (lv_room (Nat.le_of_ble_eq_true rfl)) dFr_enterWith_80 ⟨Nat.le_of_ble_eq_true rfl, Nat.le_of_ble_eq_true rfl⟩) hS (fun I12 F12 H locs hP hp12 hS => ?_)
        have hw := hw I12 F12 hp12
        obtain ⟨x13, e_x13⟩ : ∃ z : Int32, z = x4 + 1 := ⟨_, rfl⟩
        have hw := hw x13 e_x13
        refine lv_iinc (k := 3) (v := x13) (lv' := [(4, .int x13), (0, .ref (a 11)), (2, .int x2), (3, .int x3)]) hx hb dFr_enterWith_83 hl rfl (e_x13 ▸ (by first | rfl | decide)) (by decide) rfl (fun ls hl => ?_)
        refine lv_goto (tgt := 52) hx hb dFr_enterWith_86 (by decide) ?_
        exact ih52 x2 x3 x13 I12 F12 H locs ls (lv_sub hl [1, 2, 3, 0] rfl) hP hS hw
  suffices hM : ∀ (H : Heap) (locs : List Loc), va_P D vwCl (cw a cI cZ cQ I F) H → va_S (xA 47 a s.heap.size) s.heap H locs → W p l e (headSpec (Cond.code y_Fr_enterWith b_Fr_enterWith 5 none :: TB) { frames := 2, cells := 0, slots := 0, locals := 43 }).room s m ([.ref (a 11), .int p1, .int p2]).toArray below meth c H locs 0 0 (Q) (F0 m 0 ls []) from hM s.heap [] hP va_S.rf
  clear hP
  intro H locs hP hS
  dsimp only [wp_Fr_enterWith] at hw
  refine lv_aload_n hx hb dFr_enterWith_0 rfl (lv_at hl 0 rfl) ?_
  refine va_get (D := D) (v := .int (I 9)) (ci := 0) (C := "CodeJudge$Frames") (T := T_Fr) (N := 6) hx hb hts in_Fr hown hK hP 11 cw_11 rfl 0 (by decide) (hts (.fieldLink "CodeJudge$Frames" 27 "CodeJudge$Frames" "open" "I") tw_1_142) (fun _ h9 => h9) rfl dFr_enterWith_1 ?_
  refine lv_iconst (v := 1) hx hb dFr_enterWith_4 (by decide) ?_
  refine lv_isub hx hb dFr_enterWith_5 ?_
  refine lv_topi (fun x1 e_x1 => ?_)
  have hw := hw x1 e_x1
  refine lv_istore_n (lv' := [(3, .int x1), (0, .ref (a 11)), (1, .int p1), (2, .int p2)]) hx hb dFr_enterWith_6 rfl hl (by decide) rfl (fun ls hl => ?_)
  refine lv_aload_n hx hb dFr_enterWith_7 rfl (lv_at hl 1 rfl) ?_
  refine va_get (D := D) (v := .int (I 9)) (ci := 0) (C := "CodeJudge$Frames") (T := T_Fr) (N := 6) hx hb hts in_Fr hown hK hP 11 cw_11 rfl 0 (by decide) (hts (.fieldLink "CodeJudge$Frames" 27 "CodeJudge$Frames" "open" "I") tw_1_142) (fun _ h9 => h9) rfl dFr_enterWith_8 ?_
  refine lv_if_eq (tgt := 33) hx hb dFr_enterWith_11 (by decide) (fun h2 => ?_) (fun h2 => ?_)
  · have hw := hw.1 h2
    rw [hQ]
    exact W.vret hx hb hr (fun t ht hW => ⟨⟨(I, F), rfl, hw, by subst ht; exact hP⟩, hS.F ht⟩) hS.2.2 dFr_enterWith_33
  · have hw := hw.2 h2
    refine lv_aload_n hx hb dFr_enterWith_14 rfl (lv_at hl 1 rfl) ?_
    refine va_get (D := D) (v := .int (I 9)) (ci := 0) (C := "CodeJudge$Frames") (T := T_Fr) (N := 6) hx hb hts in_Fr hown hK hP 11 cw_11 rfl 0 (by decide) (hts (.fieldLink "CodeJudge$Frames" 27 "CodeJudge$Frames" "open" "I") tw_1_142) (fun _ h9 => h9) rfl dFr_enterWith_15 ?_
    refine lv_bipush (v := 50) hx hb dFr_enterWith_18 (by decide) ?_
    refine lv_icmp_ge (tgt := 33) hx hb dFr_enterWith_20 (by decide) (fun h3 => ?_) (fun h3 => ?_)
    · have hw := hw.1 h3
      rw [hQ]
      exact W.vret hx hb hr (fun t ht hW => ⟨⟨(I, F), rfl, hw, by subst ht; exact hP⟩, hS.F ht⟩) hS.2.2 dFr_enterWith_33
    · have hw := hw.2 h3
      refine lv_aload_n hx hb dFr_enterWith_23 rfl (lv_at hl 1 rfl) ?_
      refine va_get (D := D) (v := .ref (a 16)) (ci := 0) (C := "CodeJudge$Frames") (T := T_Fr) (N := 6) hx hb hts in_Fr hown hK hP 11 cw_11 rfl 3 (by decide) (hts (.fieldLink "CodeJudge$Frames" 18 "CodeJudge$Frames" "heights" "[I") tw_1_147) (fun _ h9 => h9) rfl dFr_enterWith_24 ?_
      refine lv_iload_n hx hb dFr_enterWith_27 rfl (lv_at hl 0 rfl) ?_
      obtain ⟨h4, hw⟩ := hw
      refine va_iald hx hb hK hP 16 0 cw_16 rfl h4 dFr_enterWith_28 ?_
      refine lv_iload_n hx hb dFr_enterWith_29 rfl (lv_at hl 3 rfl) ?_
      refine lv_icmp_ge (tgt := 34) hx hb dFr_enterWith_30 (by decide) (fun h5 => ?_) (fun h5 => ?_)
      · have hw := hw.1 h5
        refine lv_aload_n hx hb dFr_enterWith_34 rfl (lv_at hl 1 rfl) ?_
        refine lv_iload_n hx hb dFr_enterWith_35 rfl (lv_at hl 2 rfl) ?_
        obtain ⟨P6, hc6, hw⟩ := hw
        refine cc_v (va_runV (As := [.int p1]) (rest := []) ⟨hx, hb, hml, hown, hts⟩ (c_Fr_enter l D a cI cZ cQ hJ I F p1 H.size P6 hc6) (cwV 1 hts (tb_V (C := "CodeJudge$Frames") wc_Fr_enter tw_3_190 tw_3_80 tw_3_81 tw_1_6) rfl rfl rfl (by decide +kernel) ⟨Nat.le_of_ble_eq_true rfl, Nat.le_of_ble_eq_true rfl⟩) ⟨cP_bl, va_recv hK hP rfl cw_11, cP_at hP hK hN⟩ rfl rfl hl.1 rfl (lv_room (Nat.le_of_ble_eq_true rfl)) dFr_enterWith_36 ⟨Nat.le_of_ble_eq_true rfl, Nat.le_of_ble_eq_true rfl⟩) hS (fun I6 F6 H locs hP hp6 hS => ?_)
        have hw := hw I6 F6 hp6
        refine lv_aload_n hx hb dFr_enterWith_39 rfl (lv_at hl 1 rfl) ?_
        refine va_get (D := D) (v := .ref (a 16)) (ci := 0) (C := "CodeJudge$Frames") (T := T_Fr) (N := 6) hx hb hts in_Fr hown hK hP 11 cw_11 rfl 3 (by decide) (hts (.fieldLink "CodeJudge$Frames" 18 "CodeJudge$Frames" "heights" "[I") tw_1_147) (fun _ h9 => h9) rfl dFr_enterWith_40 ?_
        refine lv_iload_n hx hb dFr_enterWith_43 rfl (lv_at hl 0 rfl) ?_
        refine lv_dup2_11 hx hb dFr_enterWith_44 rfl rfl ?_
        obtain ⟨h7, hw⟩ := hw
        refine va_iald hx hb hK hP 16 0 cw_16 rfl h7 dFr_enterWith_45 ?_
        refine lv_iload_n hx hb dFr_enterWith_46 rfl (lv_at hl 3 rfl) ?_
        refine lv_isub hx hb dFr_enterWith_47 ?_
        obtain ⟨h8, hw⟩ := hw
        refine va_iast hx hb hK hP (cD hJ) hS 16 0 cw_16 rfl h8 dFr_enterWith_48 (fun H locs hP _ hS => ?_)
        have hP := cwa_16 hP
        refine lv_iconst (v := 0) hx hb dFr_enterWith_49 (by decide) ?_
        refine lv_istore (lv' := [(4, .int 0), (3, .int x1), (0, .ref (a 11)), (1, .int p1), (2, .int p2)]) hx hb dFr_enterWith_50 hl (by decide) rfl (fun ls hl => ?_)
        obtain ⟨n52, hw⟩ := hw
        exact J52 n52 p2 x1 0 I6 (va_up F6 16 (upd (F6 16) x1.toNatClampNeg (((F6 16) x1.toNatClampNeg) - p2))) H locs ls (lv_sub hl [2, 4, 1, 0] rfl) hP hS hw
      · have hw := hw.2 h5
        rw [hQ]
        exact W.vret hx hb hr (fun t ht hW => ⟨⟨(I, F), rfl, hw, by subst ht; exact hP⟩, hS.F ht⟩) hS.2.2 dFr_enterWith_33
def wp_Fr_upperHeight (I : SI) (F : SF) (Post : Int32 → SI → SF → Prop) : Prop := ((I 9) ≤ 0 → (Post 0 I F)) ∧ (¬ (I 9) ≤ 0 → (vp_in ((I 9) - 1) 50 ∧ (Post ((F 16) ((I 9) - 1 : Int32).toNatClampNeg) I F)))
set_option maxHeartbeats 4000000 in
set_option maxRecDepth 100000 in
theorem c_Fr_upperHeight (l : Launch) (D : va_G) (a : Nat → Nat) (cI cZ cQ : ClassId) (hJ : xJ 47 a) (I : SI) (F : SF) (sz : Nat) (Post : Int32 → SI → SF → Prop) (hw : wp_Fr_upperHeight I F Post) : Met l y_Fr_upperHeight (Cond.code y_Fr_upperHeight b_Fr_upperHeight 1 (some .int) :: TB) { frames := 0, cells := 0, slots := 0, locals := 0 } (va_Pc [.ref (a 11)] (cP D a cI cZ cQ I F sz)) (va_Qi (fun r (u : SI × SF) => Post r u.1 u.2) (fun u t => va_P D vwCl (cw a cI cZ cQ u.1 u.2) t.heap) (xA 47 a sz)) 0 0 (xA 47 a sz) := by
  refine Met.ofW (cc := b_Fr_upperHeight) (maxL := 1) (ret := (some .int)) (by decide) rfl ?_
  intro p e s m args below meth c s₁ B hml hv
  obtain ⟨rfl, rfl, hP, hK, hN⟩ := hv
  have hx := B.exec
  have hb := B.bytes
  have hr := B.returns
  have hts : ∀ w ∈ TB, w.before _ s = true := fun w h => atoms_spec (ws := Cond.code y_Fr_upperHeight b_Fr_upperHeight 1 (some .int) :: TB) B.pre w (List.mem_cons_of_mem _ h)
  have hown : s.vm.findClass "CodeJudge$Frames" = some m.cls := findClass_of_methodNamed B.named
  have hlocks := B.notSynchronized
  have hl := lv_entry ([.ref (a 11)]) (n := 1) (Nat.le_of_ble_eq_true rfl)
  rw [lg_entry_eq]
  generalize (lg_sl ([.ref (a 11)]) ++ List.replicate (1 - (lg_sl ([.ref (a 11)])).length) Slot.unset).toArray = ls at hl ⊢
  have hl : lv_has ls 1 [(0, .ref (a 11))] := hl
  suffices hM : ∀ (H : Heap) (locs : List Loc), va_P D vwCl (cw a cI cZ cQ I F) H → va_S (xA 47 a s.heap.size) s.heap H locs → W p l e (headSpec (Cond.code y_Fr_upperHeight b_Fr_upperHeight 1 (some .int) :: TB) { frames := 0, cells := 0, slots := 0, locals := 0 }).room s m ([.ref (a 11)]).toArray below meth c H locs 0 0 (MQ below (va_Qi (fun r (u : SI × SF) => Post r u.1 u.2) (fun u t => va_P D vwCl (cw a cI cZ cQ u.1 u.2) t.heap) (xA 47 a s.heap.size)) ([.ref (a 11)]).toArray s 0 0 (xA 47 a s.heap.size)) (F0 m 0 ls []) from hM s.heap [] hP va_S.rf
  clear hP
  intro H locs hP hS
  dsimp only [wp_Fr_upperHeight] at hw
  refine lv_aload_n hx hb dFr_upperHeight_0 rfl (lv_at hl 0 rfl) ?_
  refine va_get (D := D) (v := .int (I 9)) (ci := 0) (C := "CodeJudge$Frames") (T := T_Fr) (N := 6) hx hb hts in_Fr hown hK hP 11 cw_11 rfl 0 (by decide) (hts (.fieldLink "CodeJudge$Frames" 27 "CodeJudge$Frames" "open" "I") tw_1_142) (fun _ h9 => h9) rfl dFr_upperHeight_1 ?_
  refine lv_if_le (tgt := 21) hx hb dFr_upperHeight_4 (by decide) (fun h1 => ?_) (fun h1 => ?_)
  · have hw := hw.1 h1
    refine lv_iconst (v := 0) hx hb dFr_upperHeight_21 (by decide) ?_
    exact W.iret (v := 0) hx hb hr (fun t ht hW => ⟨⟨0, (I, F), rfl, hw, by subst ht; exact hP⟩, hS.F ht⟩) hS.2.2 dFr_upperHeight_22
  · have hw := hw.2 h1
    refine lv_aload_n hx hb dFr_upperHeight_7 rfl (lv_at hl 0 rfl) ?_
    refine va_get (D := D) (v := .ref (a 16)) (ci := 0) (C := "CodeJudge$Frames") (T := T_Fr) (N := 6) hx hb hts in_Fr hown hK hP 11 cw_11 rfl 3 (by decide) (hts (.fieldLink "CodeJudge$Frames" 18 "CodeJudge$Frames" "heights" "[I") tw_1_147) (fun _ h9 => h9) rfl dFr_upperHeight_8 ?_
    refine lv_aload_n hx hb dFr_upperHeight_11 rfl (lv_at hl 0 rfl) ?_
    refine va_get (D := D) (v := .int (I 9)) (ci := 0) (C := "CodeJudge$Frames") (T := T_Fr) (N := 6) hx hb hts in_Fr hown hK hP 11 cw_11 rfl 0 (by decide) (hts (.fieldLink "CodeJudge$Frames" 27 "CodeJudge$Frames" "open" "I") tw_1_142) (fun _ h9 => h9) rfl dFr_upperHeight_12 ?_
    refine lv_iconst (v := 1) hx hb dFr_upperHeight_15 (by decide) ?_
    refine lv_isub hx hb dFr_upperHeight_16 ?_
    obtain ⟨h2, hw⟩ := hw
    refine va_iald hx hb hK hP 16 0 cw_16 rfl h2 dFr_upperHeight_17 ?_
    refine lv_goto (tgt := 22) hx hb dFr_upperHeight_18 (by decide) ?_
    exact W.iret (v := ((F 16) ((I 9) - 1 : Int32).toNatClampNeg)) hx hb hr (fun t ht hW => ⟨⟨((F 16) ((I 9) - 1 : Int32).toNatClampNeg), (I, F), rfl, hw, by subst ht; exact hP⟩, hS.F ht⟩) hS.2.2 dFr_upperHeight_22
def wp_Fr_onStack (p1 : Int32) (I : SI) (F : SF) (Post : Int32 → SI → SF → Prop) : Prop := ∃ P1 : Int32 → SI → SF → Prop, wp_Fr_upperHeight I F P1 ∧ ∀ r1 I1 F1, P1 r1 I1 F1 → (∃ P2 : Int32 → SI → SF → Prop, wp_CJ_isBelow p1 r1 I1 F1 P2 ∧ ∀ r2 I2 F2, P2 r2 I2 F2 → ((r2 = 0 → (Post 0 I2 F2)) ∧ (¬ r2 = 0 → (vp_in ((((I2 9) - 1) * 15) + p1) 750 ∧ (Post ((F2 18) ((((I2 9) - 1) * 15) + p1 : Int32).toNatClampNeg) I2 F2)))))
set_option maxHeartbeats 4000000 in
set_option maxRecDepth 100000 in
theorem c_Fr_onStack (l : Launch) (D : va_G) (a : Nat → Nat) (cI cZ cQ : ClassId) (hJ : xJ 47 a) (I : SI) (F : SF) (p1 : Int32) (sz : Nat) (Post : Int32 → SI → SF → Prop) (hw : wp_Fr_onStack p1 I F Post) : Met l y_Fr_onStack (Cond.code y_Fr_onStack b_Fr_onStack 2 (some .int) :: TB) { frames := 1, cells := 0, slots := 0, locals := 21 } (va_Pc [.ref (a 11), .int p1] (cP D a cI cZ cQ I F sz)) (va_Qi (fun r (u : SI × SF) => Post r u.1 u.2) (fun u t => va_P D vwCl (cw a cI cZ cQ u.1 u.2) t.heap) (xA 47 a sz)) 0 0 (xA 47 a sz) := by
  refine Met.ofW (cc := b_Fr_onStack) (maxL := 2) (ret := (some .int)) (by decide) rfl ?_
  intro p e s m args below meth c s₁ B hml hv
  obtain ⟨rfl, rfl, hP, hK, hN⟩ := hv
  have hx := B.exec
  have hb := B.bytes
  have hr := B.returns
  have hts : ∀ w ∈ TB, w.before _ s = true := fun w h => atoms_spec (ws := Cond.code y_Fr_onStack b_Fr_onStack 2 (some .int) :: TB) B.pre w (List.mem_cons_of_mem _ h)
  have hown : s.vm.findClass "CodeJudge$Frames" = some m.cls := findClass_of_methodNamed B.named
  have hlocks := B.notSynchronized
  have hl := lv_entry ([.ref (a 11), .int p1]) (n := 2) (Nat.le_of_ble_eq_true rfl)
  rw [lg_entry_eq]
  generalize (lg_sl ([.ref (a 11), .int p1]) ++ List.replicate (2 - (lg_sl ([.ref (a 11), .int p1])).length) Slot.unset).toArray = ls at hl ⊢
  have hl : lv_has ls 2 [(0, .ref (a 11)), (1, .int p1)] := hl
  suffices hM : ∀ (H : Heap) (locs : List Loc), va_P D vwCl (cw a cI cZ cQ I F) H → va_S (xA 47 a s.heap.size) s.heap H locs → W p l e (headSpec (Cond.code y_Fr_onStack b_Fr_onStack 2 (some .int) :: TB) { frames := 1, cells := 0, slots := 0, locals := 21 }).room s m ([.ref (a 11), .int p1]).toArray below meth c H locs 0 0 (MQ below (va_Qi (fun r (u : SI × SF) => Post r u.1 u.2) (fun u t => va_P D vwCl (cw a cI cZ cQ u.1 u.2) t.heap) (xA 47 a s.heap.size)) ([.ref (a 11), .int p1]).toArray s 0 0 (xA 47 a s.heap.size)) (F0 m 0 ls []) from hM s.heap [] hP va_S.rf
  clear hP
  intro H locs hP hS
  dsimp only [wp_Fr_onStack] at hw
  refine lv_iload_n hx hb dFr_onStack_0 rfl (lv_at hl 1 rfl) ?_
  refine lv_aload_n hx hb dFr_onStack_1 rfl (lv_at hl 0 rfl) ?_
  obtain ⟨P1, hc1, hw⟩ := hw
  refine cc_i (va_runV (As := []) (rest := [.int p1]) ⟨hx, hb, hml, hown, hts⟩ (c_Fr_upperHeight l D a cI cZ cQ hJ I F H.size P1 hc1) (cwV 0 hts (tb_V (C := "CodeJudge$Frames") wc_Fr_upperHeight tw_3_139 tw_3_140 tw_3_141 tw_1_6) rfl rfl rfl (by decide +kernel) ⟨Nat.le_of_ble_eq_true rfl, Nat.le_of_ble_eq_true rfl⟩) ⟨cP_bl, va_recv hK hP rfl cw_11, cP_at hP hK hN⟩ rfl rfl hl.1 rfl (lv_room (Nat.le_of_ble_eq_true rfl)) dFr_onStack_2 ⟨Nat.le_of_ble_eq_true rfl, Nat.le_of_ble_eq_true rfl⟩) hS (fun r1 I1 F1 H locs hP hp1 hS => ?_)
  have hw := hw r1 I1 F1 hp1
  obtain ⟨P2, hc2, hw⟩ := hw
  refine cc_i (va_runSN (As := [.int p1, .int r1]) (rest := []) ⟨hx, hb, hml, hown, hts⟩ (c_CJ_isBelow l D a cI cZ cQ hJ I1 F1 p1 r1 H.size P2 hc2) (⟨va_cnB 2 hts (tb_self wc_CJ_isBelow) rfl rfl rfl (hN ("CodeJudge$Frames", 39, ⟨"CodeJudge", "isBelow", "(II)Z"⟩, "CodeJudge") (by decide +kernel)) (hts (.initialized "CodeJudge") tw_1_1) (by decide +kernel) ⟨Nat.le_of_ble_eq_true rfl, Nat.le_of_ble_eq_true rfl⟩, hts (.static ⟨"CodeJudge", "isBelow", "(II)Z"⟩) tw_2_7, trivial⟩) ⟨cP_bl, cP_at hP hK hN⟩ rfl rfl hl.1 rfl (lv_room (Nat.le_of_ble_eq_true rfl)) dFr_onStack_5 ⟨Nat.le_of_ble_eq_true rfl, Nat.le_of_ble_eq_true rfl⟩) hS (fun r2 I2 F2 H locs hP hp2 hS => ?_)
  have hw := hw r2 I2 F2 hp2
  refine lv_if_eq (tgt := 30) hx hb dFr_onStack_8 (by decide) (fun h3 => ?_) (fun h3 => ?_)
  · have hw := hw.1 h3
    refine lv_iconst (v := 0) hx hb dFr_onStack_30 (by decide) ?_
    exact W.iret (v := 0) hx hb hr (fun t ht hW => ⟨⟨0, (I2, F2), rfl, hw, by subst ht; exact hP⟩, hS.F ht⟩) hS.2.2 dFr_onStack_31
  · have hw := hw.2 h3
    refine lv_aload_n hx hb dFr_onStack_11 rfl (lv_at hl 0 rfl) ?_
    refine va_get (D := D) (v := .ref (a 18)) (ci := 0) (C := "CodeJudge$Frames") (T := T_Fr) (N := 6) hx hb hts in_Fr hown hK hP 11 cw_11 rfl 5 (by decide) (hts (.fieldLink "CodeJudge$Frames" 24 "CodeJudge$Frames" "stacks" "[I") tw_1_149) (fun _ h9 => h9) rfl dFr_onStack_12 ?_
    refine lv_aload_n hx hb dFr_onStack_15 rfl (lv_at hl 0 rfl) ?_
    refine va_get (D := D) (v := .int (I2 9)) (ci := 0) (C := "CodeJudge$Frames") (T := T_Fr) (N := 6) hx hb hts in_Fr hown hK hP 11 cw_11 rfl 0 (by decide) (hts (.fieldLink "CodeJudge$Frames" 27 "CodeJudge$Frames" "open" "I") tw_1_142) (fun _ h9 => h9) rfl dFr_onStack_16 ?_
    refine lv_iconst (v := 1) hx hb dFr_onStack_19 (by decide) ?_
    refine lv_isub hx hb dFr_onStack_20 ?_
    refine lv_bipush (v := 15) hx hb dFr_onStack_21 (by decide) ?_
    refine lv_imul hx hb dFr_onStack_23 ?_
    refine lv_iload_n hx hb dFr_onStack_24 rfl (lv_at hl 1 rfl) ?_
    refine lv_iadd hx hb dFr_onStack_25 ?_
    obtain ⟨h4, hw⟩ := hw
    refine va_iald hx hb hK hP 18 0 cw_18 rfl h4 dFr_onStack_26 ?_
    refine lv_goto (tgt := 31) hx hb dFr_onStack_27 (by decide) ?_
    exact W.iret (v := ((F2 18) ((((I2 9) - 1) * 15) + p1 : Int32).toNatClampNeg)) hx hb hr (fun t ht hW => ⟨⟨((F2 18) ((((I2 9) - 1) * 15) + p1 : Int32).toNatClampNeg), (I2, F2), rfl, hw, by subst ht; exact hP⟩, hS.F ht⟩) hS.2.2 dFr_onStack_31
def wp_Fr_fromTop (p1 : Int32) (I : SI) (F : SF) (Post : Int32 → SI → SF → Prop) : Prop := ∃ P1 : Int32 → SI → SF → Prop, wp_Fr_upperHeight I F P1 ∧ ∀ r1 I1 F1, P1 r1 I1 F1 → (∃ P2 : Int32 → SI → SF → Prop, wp_Fr_onStack ((r1 - 1) - p1) I1 F1 P2 ∧ ∀ r2 I2 F2, P2 r2 I2 F2 → (Post r2 I2 F2))
set_option maxHeartbeats 4000000 in
set_option maxRecDepth 100000 in
theorem c_Fr_fromTop (l : Launch) (D : va_G) (a : Nat → Nat) (cI cZ cQ : ClassId) (hJ : xJ 47 a) (I : SI) (F : SF) (p1 : Int32) (sz : Nat) (Post : Int32 → SI → SF → Prop) (hw : wp_Fr_fromTop p1 I F Post) : Met l y_Fr_fromTop (Cond.code y_Fr_fromTop b_Fr_fromTop 2 (some .int) :: TB) { frames := 2, cells := 0, slots := 0, locals := 42 } (va_Pc [.ref (a 11), .int p1] (cP D a cI cZ cQ I F sz)) (va_Qi (fun r (u : SI × SF) => Post r u.1 u.2) (fun u t => va_P D vwCl (cw a cI cZ cQ u.1 u.2) t.heap) (xA 47 a sz)) 0 0 (xA 47 a sz) := by
  refine Met.ofW (cc := b_Fr_fromTop) (maxL := 2) (ret := (some .int)) (by decide) rfl ?_
  intro p e s m args below meth c s₁ B hml hv
  obtain ⟨rfl, rfl, hP, hK, hN⟩ := hv
  have hx := B.exec
  have hb := B.bytes
  have hr := B.returns
  have hts : ∀ w ∈ TB, w.before _ s = true := fun w h => atoms_spec (ws := Cond.code y_Fr_fromTop b_Fr_fromTop 2 (some .int) :: TB) B.pre w (List.mem_cons_of_mem _ h)
  have hown : s.vm.findClass "CodeJudge$Frames" = some m.cls := findClass_of_methodNamed B.named
  have hlocks := B.notSynchronized
  have hl := lv_entry ([.ref (a 11), .int p1]) (n := 2) (Nat.le_of_ble_eq_true rfl)
  rw [lg_entry_eq]
  generalize (lg_sl ([.ref (a 11), .int p1]) ++ List.replicate (2 - (lg_sl ([.ref (a 11), .int p1])).length) Slot.unset).toArray = ls at hl ⊢
  have hl : lv_has ls 2 [(0, .ref (a 11)), (1, .int p1)] := hl
  suffices hM : ∀ (H : Heap) (locs : List Loc), va_P D vwCl (cw a cI cZ cQ I F) H → va_S (xA 47 a s.heap.size) s.heap H locs → W p l e (headSpec (Cond.code y_Fr_fromTop b_Fr_fromTop 2 (some .int) :: TB) { frames := 2, cells := 0, slots := 0, locals := 42 }).room s m ([.ref (a 11), .int p1]).toArray below meth c H locs 0 0 (MQ below (va_Qi (fun r (u : SI × SF) => Post r u.1 u.2) (fun u t => va_P D vwCl (cw a cI cZ cQ u.1 u.2) t.heap) (xA 47 a s.heap.size)) ([.ref (a 11), .int p1]).toArray s 0 0 (xA 47 a s.heap.size)) (F0 m 0 ls []) from hM s.heap [] hP va_S.rf
  clear hP
  intro H locs hP hS
  dsimp only [wp_Fr_fromTop] at hw
  refine lv_aload_n hx hb dFr_fromTop_0 rfl (lv_at hl 0 rfl) ?_
  refine lv_aload_n hx hb dFr_fromTop_1 rfl (lv_at hl 0 rfl) ?_
  obtain ⟨P1, hc1, hw⟩ := hw
  refine cc_i (va_runV (As := []) (rest := [.ref (a 11)]) ⟨hx, hb, hml, hown, hts⟩ (c_Fr_upperHeight l D a cI cZ cQ hJ I F H.size P1 hc1) (cwV 0 hts (tb_V (C := "CodeJudge$Frames") wc_Fr_upperHeight tw_3_139 tw_3_140 tw_3_141 tw_1_6) rfl rfl rfl (by decide +kernel) ⟨Nat.le_of_ble_eq_true rfl, Nat.le_of_ble_eq_true rfl⟩) ⟨cP_bl, va_recv hK hP rfl cw_11, cP_at hP hK hN⟩ rfl rfl hl.1 rfl (lv_room (Nat.le_of_ble_eq_true rfl)) dFr_fromTop_2 ⟨Nat.le_of_ble_eq_true rfl, Nat.le_of_ble_eq_true rfl⟩) hS (fun r1 I1 F1 H locs hP hp1 hS => ?_)
  have hw := hw r1 I1 F1 hp1
  refine lv_iconst (v := 1) hx hb dFr_fromTop_5 (by decide) ?_
  refine lv_isub hx hb dFr_fromTop_6 ?_
  refine lv_iload_n hx hb dFr_fromTop_7 rfl (lv_at hl 1 rfl) ?_
  refine lv_isub hx hb dFr_fromTop_8 ?_
  obtain ⟨P2, hc2, hw⟩ := hw
  refine cc_i (va_runV (As := [.int ((r1 - 1) - p1)]) (rest := []) ⟨hx, hb, hml, hown, hts⟩ (c_Fr_onStack l D a cI cZ cQ hJ I1 F1 ((r1 - 1) - p1) H.size P2 hc2) (cwV 1 hts (tb_V (C := "CodeJudge$Frames") wc_Fr_onStack tw_3_143 tw_3_144 tw_3_145 tw_1_6) rfl rfl rfl (by decide +kernel) ⟨Nat.le_of_ble_eq_true rfl, Nat.le_of_ble_eq_true rfl⟩) ⟨cP_bl, va_recv hK hP rfl cw_11, cP_at hP hK hN⟩ rfl rfl hl.1 rfl (lv_room (Nat.le_of_ble_eq_true rfl)) dFr_fromTop_9 ⟨Nat.le_of_ble_eq_true rfl, Nat.le_of_ble_eq_true rfl⟩) hS (fun r2 I2 F2 H locs hP hp2 hS => ?_)
  have hw := hw r2 I2 F2 hp2
  exact W.iret (v := r2) hx hb hr (fun t ht hW => ⟨⟨r2, (I2, F2), rfl, hw, by subst ht; exact hP⟩, hS.F ht⟩) hS.2.2 dFr_fromTop_12
def wp_Fr_go (p1 : Int32) (I : SI) (F : SF) (Post : SI → SF → Prop) : Prop := ((I 9) ≤ 0 → (Post I F)) ∧ (¬ (I 9) ≤ 0 → (vp_in ((I 9) - 1) 50 ∧ (Post I (va_up F 15 (upd (F 15) ((I 9) - 1 : Int32).toNatClampNeg p1)))))
set_option maxHeartbeats 4000000 in
set_option maxRecDepth 100000 in
theorem c_Fr_go (l : Launch) (D : va_G) (a : Nat → Nat) (cI cZ cQ : ClassId) (hJ : xJ 47 a) (I : SI) (F : SF) (p1 : Int32) (sz : Nat) (Post : SI → SF → Prop) (hw : wp_Fr_go p1 I F Post) : Met l y_Fr_go (Cond.code y_Fr_go b_Fr_go 2 none :: TB) { frames := 0, cells := 0, slots := 0, locals := 0 } (va_Pc [.ref (a 11), .int p1] (cP D a cI cZ cQ I F sz)) (va_Qv (fun (u : SI × SF) => Post u.1 u.2) (fun u t => va_P D vwCl (cw a cI cZ cQ u.1 u.2) t.heap) (xA 47 a sz)) 0 0 (xA 47 a sz) := by
  refine Met.ofW (cc := b_Fr_go) (maxL := 2) (ret := none) (by decide) rfl ?_
  intro p e s m args below meth c s₁ B hml hv
  obtain ⟨rfl, rfl, hP, hK, hN⟩ := hv
  have hx := B.exec
  have hb := B.bytes
  have hr := B.returns
  have hts : ∀ w ∈ TB, w.before _ s = true := fun w h => atoms_spec (ws := Cond.code y_Fr_go b_Fr_go 2 none :: TB) B.pre w (List.mem_cons_of_mem _ h)
  have hown : s.vm.findClass "CodeJudge$Frames" = some m.cls := findClass_of_methodNamed B.named
  have hlocks := B.notSynchronized
  have hl := lv_entry ([.ref (a 11), .int p1]) (n := 2) (Nat.le_of_ble_eq_true rfl)
  rw [lg_entry_eq]
  generalize (lg_sl ([.ref (a 11), .int p1]) ++ List.replicate (2 - (lg_sl ([.ref (a 11), .int p1])).length) Slot.unset).toArray = ls at hl ⊢
  have hl : lv_has ls 2 [(0, .ref (a 11)), (1, .int p1)] := hl
  suffices hM : ∀ (H : Heap) (locs : List Loc), va_P D vwCl (cw a cI cZ cQ I F) H → va_S (xA 47 a s.heap.size) s.heap H locs → W p l e (headSpec (Cond.code y_Fr_go b_Fr_go 2 none :: TB) { frames := 0, cells := 0, slots := 0, locals := 0 }).room s m ([.ref (a 11), .int p1]).toArray below meth c H locs 0 0 (MQ below (va_Qv (fun (u : SI × SF) => Post u.1 u.2) (fun u t => va_P D vwCl (cw a cI cZ cQ u.1 u.2) t.heap) (xA 47 a s.heap.size)) ([.ref (a 11), .int p1]).toArray s 0 0 (xA 47 a s.heap.size)) (F0 m 0 ls []) from hM s.heap [] hP va_S.rf
  clear hP
  intro H locs hP hS
  dsimp only [wp_Fr_go] at hw
  refine lv_aload_n hx hb dFr_go_0 rfl (lv_at hl 0 rfl) ?_
  refine va_get (D := D) (v := .int (I 9)) (ci := 0) (C := "CodeJudge$Frames") (T := T_Fr) (N := 6) hx hb hts in_Fr hown hK hP 11 cw_11 rfl 0 (by decide) (hts (.fieldLink "CodeJudge$Frames" 27 "CodeJudge$Frames" "open" "I") tw_1_142) (fun _ h9 => h9) rfl dFr_go_1 ?_
  refine lv_if_le (tgt := 19) hx hb dFr_go_4 (by decide) (fun h1 => ?_) (fun h1 => ?_)
  · have hw := hw.1 h1
    exact W.vret hx hb hr (fun t ht hW => ⟨⟨(I, F), rfl, hw, by subst ht; exact hP⟩, hS.F ht⟩) hS.2.2 dFr_go_19
  · have hw := hw.2 h1
    refine lv_aload_n hx hb dFr_go_7 rfl (lv_at hl 0 rfl) ?_
    refine va_get (D := D) (v := .ref (a 15)) (ci := 0) (C := "CodeJudge$Frames") (T := T_Fr) (N := 6) hx hb hts in_Fr hown hK hP 11 cw_11 rfl 2 (by decide) (hts (.fieldLink "CodeJudge$Frames" 15 "CodeJudge$Frames" "places" "[I") tw_1_146) (fun _ h9 => h9) rfl dFr_go_8 ?_
    refine lv_aload_n hx hb dFr_go_11 rfl (lv_at hl 0 rfl) ?_
    refine va_get (D := D) (v := .int (I 9)) (ci := 0) (C := "CodeJudge$Frames") (T := T_Fr) (N := 6) hx hb hts in_Fr hown hK hP 11 cw_11 rfl 0 (by decide) (hts (.fieldLink "CodeJudge$Frames" 27 "CodeJudge$Frames" "open" "I") tw_1_142) (fun _ h9 => h9) rfl dFr_go_12 ?_
    refine lv_iconst (v := 1) hx hb dFr_go_15 (by decide) ?_
    refine lv_isub hx hb dFr_go_16 ?_
    refine lv_iload_n hx hb dFr_go_17 rfl (lv_at hl 1 rfl) ?_
    obtain ⟨h2, hw⟩ := hw
    refine va_iast hx hb hK hP (cD hJ) hS 15 0 cw_15 rfl h2 dFr_go_18 (fun H locs hP _ hS => ?_)
    have hP := cwa_15 hP
    exact W.vret hx hb hr (fun t ht hW => ⟨⟨(I, (va_up F 15 (upd (F 15) ((I 9) - 1 : Int32).toNatClampNeg p1))), rfl, hw, by subst ht; exact hP⟩, hS.F ht⟩) hS.2.2 dFr_go_19
