def wp_Me_orderAt (k0 : Nat) (p1 : Int32) (I : SI) (F : SF) (Post : Int32 → SI → SF → Prop) : Prop := ∃ P1 : Int32 → SI → SF → Prop, wp_Me_has k0 p1 I F P1 ∧ ∀ r1 I1 F1, P1 r1 I1 F1 → ((r1 = 0 → (Post 24 I1 F1)) ∧ (¬ r1 = 0 → (vp_in p1 120 ∧ (Post ((F1 (24 + 3 * k0)) p1.toNatClampNeg) I1 F1))))
set_option maxHeartbeats 4000000 in
set_option maxRecDepth 100000 in
theorem c_Me_orderAt (l : Launch) (D : va_G) (a : Nat → Nat) (cI cZ cQ : ClassId) (hJ : xJ 47 a) (I : SI) (F : SF) (k0 : Nat) (p1 : Int32) (hk0 : k0 < 8) (sz : Nat) (Post : Int32 → SI → SF → Prop) (hw : wp_Me_orderAt k0 p1 I F Post) : Met l y_Me_orderAt (Cond.code y_Me_orderAt b_Me_orderAt 2 (some .int) :: TB) { frames := 2, cells := 0, slots := 0, locals := 42 } (va_Pc [.ref (a (23 + 3 * k0)), .int p1] (cP D a cI cZ cQ I F sz)) (va_Qi (fun r (u : SI × SF) => Post r u.1 u.2) (fun u t => va_P D vwCl (cw a cI cZ cQ u.1 u.2) t.heap) (xA 47 a sz)) 0 0 (xA 47 a sz) := by
  refine Met.ofW (cc := b_Me_orderAt) (maxL := 2) (ret := (some .int)) (by decide) rfl ?_
  intro p e s m args below meth c s₁ B hml hv
  obtain ⟨rfl, rfl, hP, hK, hN⟩ := hv
  have hx := B.exec
  have hb := B.bytes
  have hr := B.returns
  have hts : ∀ w ∈ TB, w.before _ s = true := fun w h => atoms_spec (ws := Cond.code y_Me_orderAt b_Me_orderAt 2 (some .int) :: TB) B.pre w (List.mem_cons_of_mem _ h)
  have hown : s.vm.findClass "CodeJudge$Method" = some m.cls := findClass_of_methodNamed B.named
  have hlocks := B.notSynchronized
  have hl := lv_entry ([.ref (a (23 + 3 * k0)), .int p1]) (n := 2) (Nat.le_of_ble_eq_true rfl)
  rw [lg_entry_eq]
  generalize (lg_sl ([.ref (a (23 + 3 * k0)), .int p1]) ++ List.replicate (2 - (lg_sl ([.ref (a (23 + 3 * k0)), .int p1])).length) Slot.unset).toArray = ls at hl ⊢
  have hl : lv_has ls 2 [(0, .ref (a (23 + 3 * k0))), (1, .int p1)] := hl
  suffices hM : ∀ (H : Heap) (locs : List Loc), va_P D vwCl (cw a cI cZ cQ I F) H → va_S (xA 47 a s.heap.size) s.heap H locs → W p l e (headSpec (Cond.code y_Me_orderAt b_Me_orderAt 2 (some .int) :: TB) { frames := 2, cells := 0, slots := 0, locals := 42 }).room s m ([.ref (a (23 + 3 * k0)), .int p1]).toArray below meth c H locs 0 0 (MQ below (va_Qi (fun r (u : SI × SF) => Post r u.1 u.2) (fun u t => va_P D vwCl (cw a cI cZ cQ u.1 u.2) t.heap) (xA 47 a s.heap.size)) ([.ref (a (23 + 3 * k0)), .int p1]).toArray s 0 0 (xA 47 a s.heap.size)) (F0 m 0 ls []) from hM s.heap [] hP va_S.rf
  clear hP
  intro H locs hP hS
  dsimp only [wp_Me_orderAt] at hw
  refine lv_aload_n hx hb dMe_orderAt_0 rfl (lv_at hl 0 rfl) ?_
  refine lv_iload_n hx hb dMe_orderAt_1 rfl (lv_at hl 1 rfl) ?_
  obtain ⟨P1, hc1, hw⟩ := hw
  refine cc_i (va_runV (As := [.int p1]) (rest := []) ⟨hx, hb, hml, hown, hts⟩ (c_Me_has l D a cI cZ cQ hJ I F k0 p1 hk0 H.size P1 hc1) (cwV 1 hts (tb_V (C := "CodeJudge$Method") wc_Me_has tw_2_146 tw_2_138 tw_2_139 tw_1_2) rfl rfl rfl (by decide +kernel) ⟨Nat.le_of_ble_eq_true rfl, Nat.le_of_ble_eq_true rfl⟩) ⟨cP_bl, va_recv hK hP rfl (cw_M hk0), cP_at hP hK hN⟩ rfl rfl hl.1 rfl (lv_room (Nat.le_of_ble_eq_true rfl)) dMe_orderAt_2 ⟨Nat.le_of_ble_eq_true rfl, Nat.le_of_ble_eq_true rfl⟩) hS (fun r1 I1 F1 H locs hP hp1 hS => ?_)
  have hw := hw r1 I1 F1 hp1
  refine lv_if_eq (tgt := 17) hx hb dMe_orderAt_5 (by decide) (fun h2 => ?_) (fun h2 => ?_)
  · have hw := hw.1 h2
    refine lv_bipush (v := 24) hx hb dMe_orderAt_17 (by decide) ?_
    exact W.iret (v := 24) hx hb hr (fun t ht hW => ⟨⟨24, (I1, F1), rfl, hw, by subst ht; exact hP⟩, hS.F ht⟩) hS.2.2 dMe_orderAt_19
  · have hw := hw.2 h2
    refine lv_aload_n hx hb dMe_orderAt_8 rfl (lv_at hl 0 rfl) ?_
    refine va_get (D := D) (v := .ref (a (24 + 3 * k0))) (ci := 4) (C := "CodeJudge$Method") (T := T_Me) (N := 9) hx hb hts in_Me hown hK hP (23 + 3 * k0) (cw_M hk0) rfl 7 (by decide) (hts (.fieldLink "CodeJudge$Method" 9 "CodeJudge$Method" "orders" "[I") tw_1_53) (fun _ h9 => h9) rfl dMe_orderAt_9 ?_
    refine lv_iload_n hx hb dMe_orderAt_12 rfl (lv_at hl 1 rfl) ?_
    obtain ⟨h3, hw⟩ := hw
    refine va_iald hx hb hK hP (24 + 3 * k0) 0 (cw_MO hk0) rfl h3 dMe_orderAt_13 ?_
    refine lv_goto (tgt := 19) hx hb dMe_orderAt_14 (by decide) ?_
    exact W.iret (v := ((F1 (24 + 3 * k0)) p1.toNatClampNeg)) hx hb hr (fun t ht hW => ⟨⟨((F1 (24 + 3 * k0)) p1.toNatClampNeg), (I1, F1), rfl, hw, by subst ht; exact hP⟩, hS.F ht⟩) hS.2.2 dMe_orderAt_19
def wp_Me_numberAt (k0 : Nat) (p1 : Int32) (I : SI) (F : SF) (Post : Int32 → SI → SF → Prop) : Prop := ∃ P1 : Int32 → SI → SF → Prop, wp_Me_has k0 p1 I F P1 ∧ ∀ r1 I1 F1, P1 r1 I1 F1 → ((r1 = 0 → (Post 0 I1 F1)) ∧ (¬ r1 = 0 → (vp_in p1 120 ∧ (Post ((F1 (25 + 3 * k0)) p1.toNatClampNeg) I1 F1))))
set_option maxHeartbeats 4000000 in
set_option maxRecDepth 100000 in
theorem c_Me_numberAt (l : Launch) (D : va_G) (a : Nat → Nat) (cI cZ cQ : ClassId) (hJ : xJ 47 a) (I : SI) (F : SF) (k0 : Nat) (p1 : Int32) (hk0 : k0 < 8) (sz : Nat) (Post : Int32 → SI → SF → Prop) (hw : wp_Me_numberAt k0 p1 I F Post) : Met l y_Me_numberAt (Cond.code y_Me_numberAt b_Me_numberAt 2 (some .int) :: TB) { frames := 2, cells := 0, slots := 0, locals := 42 } (va_Pc [.ref (a (23 + 3 * k0)), .int p1] (cP D a cI cZ cQ I F sz)) (va_Qi (fun r (u : SI × SF) => Post r u.1 u.2) (fun u t => va_P D vwCl (cw a cI cZ cQ u.1 u.2) t.heap) (xA 47 a sz)) 0 0 (xA 47 a sz) := by
  refine Met.ofW (cc := b_Me_numberAt) (maxL := 2) (ret := (some .int)) (by decide) rfl ?_
  intro p e s m args below meth c s₁ B hml hv
  obtain ⟨rfl, rfl, hP, hK, hN⟩ := hv
  have hx := B.exec
  have hb := B.bytes
  have hr := B.returns
  have hts : ∀ w ∈ TB, w.before _ s = true := fun w h => atoms_spec (ws := Cond.code y_Me_numberAt b_Me_numberAt 2 (some .int) :: TB) B.pre w (List.mem_cons_of_mem _ h)
  have hown : s.vm.findClass "CodeJudge$Method" = some m.cls := findClass_of_methodNamed B.named
  have hlocks := B.notSynchronized
  have hl := lv_entry ([.ref (a (23 + 3 * k0)), .int p1]) (n := 2) (Nat.le_of_ble_eq_true rfl)
  rw [lg_entry_eq]
  generalize (lg_sl ([.ref (a (23 + 3 * k0)), .int p1]) ++ List.replicate (2 - (lg_sl ([.ref (a (23 + 3 * k0)), .int p1])).length) Slot.unset).toArray = ls at hl ⊢
  have hl : lv_has ls 2 [(0, .ref (a (23 + 3 * k0))), (1, .int p1)] := hl
  suffices hM : ∀ (H : Heap) (locs : List Loc), va_P D vwCl (cw a cI cZ cQ I F) H → va_S (xA 47 a s.heap.size) s.heap H locs → W p l e (headSpec (Cond.code y_Me_numberAt b_Me_numberAt 2 (some .int) :: TB) { frames := 2, cells := 0, slots := 0, locals := 42 }).room s m ([.ref (a (23 + 3 * k0)), .int p1]).toArray below meth c H locs 0 0 (MQ below (va_Qi (fun r (u : SI × SF) => Post r u.1 u.2) (fun u t => va_P D vwCl (cw a cI cZ cQ u.1 u.2) t.heap) (xA 47 a s.heap.size)) ([.ref (a (23 + 3 * k0)), .int p1]).toArray s 0 0 (xA 47 a s.heap.size)) (F0 m 0 ls []) from hM s.heap [] hP va_S.rf
  clear hP
  intro H locs hP hS
  dsimp only [wp_Me_numberAt] at hw
  refine lv_aload_n hx hb dMe_numberAt_0 rfl (lv_at hl 0 rfl) ?_
  refine lv_iload_n hx hb dMe_numberAt_1 rfl (lv_at hl 1 rfl) ?_
  obtain ⟨P1, hc1, hw⟩ := hw
  refine cc_i (va_runV (As := [.int p1]) (rest := []) ⟨hx, hb, hml, hown, hts⟩ (c_Me_has l D a cI cZ cQ hJ I F k0 p1 hk0 H.size P1 hc1) (cwV 1 hts (tb_V (C := "CodeJudge$Method") wc_Me_has tw_2_146 tw_2_138 tw_2_139 tw_1_2) rfl rfl rfl (by decide +kernel) ⟨Nat.le_of_ble_eq_true rfl, Nat.le_of_ble_eq_true rfl⟩) ⟨cP_bl, va_recv hK hP rfl (cw_M hk0), cP_at hP hK hN⟩ rfl rfl hl.1 rfl (lv_room (Nat.le_of_ble_eq_true rfl)) dMe_numberAt_2 ⟨Nat.le_of_ble_eq_true rfl, Nat.le_of_ble_eq_true rfl⟩) hS (fun r1 I1 F1 H locs hP hp1 hS => ?_)
  have hw := hw r1 I1 F1 hp1
  refine lv_if_eq (tgt := 17) hx hb dMe_numberAt_5 (by decide) (fun h2 => ?_) (fun h2 => ?_)
  · have hw := hw.1 h2
    refine lv_iconst (v := 0) hx hb dMe_numberAt_17 (by decide) ?_
    exact W.iret (v := 0) hx hb hr (fun t ht hW => ⟨⟨0, (I1, F1), rfl, hw, by subst ht; exact hP⟩, hS.F ht⟩) hS.2.2 dMe_numberAt_18
  · have hw := hw.2 h2
    refine lv_aload_n hx hb dMe_numberAt_8 rfl (lv_at hl 0 rfl) ?_
    refine va_get (D := D) (v := .ref (a (25 + 3 * k0))) (ci := 4) (C := "CodeJudge$Method") (T := T_Me) (N := 9) hx hb hts in_Me hown hK hP (23 + 3 * k0) (cw_M hk0) rfl 8 (by decide) (hts (.fieldLink "CodeJudge$Method" 15 "CodeJudge$Method" "numbers" "[I") tw_1_54) (fun _ h9 => h9) rfl dMe_numberAt_9 ?_
    refine lv_iload_n hx hb dMe_numberAt_12 rfl (lv_at hl 1 rfl) ?_
    obtain ⟨h3, hw⟩ := hw
    refine va_iald hx hb hK hP (25 + 3 * k0) 0 (cw_MN hk0) rfl h3 dMe_numberAt_13 ?_
    refine lv_goto (tgt := 18) hx hb dMe_numberAt_14 (by decide) ?_
    exact W.iret (v := ((F1 (25 + 3 * k0)) p1.toNatClampNeg)) hx hb hr (fun t ht hW => ⟨⟨((F1 (25 + 3 * k0)) p1.toNatClampNeg), (I1, F1), rfl, hw, by subst ht; exact hP⟩, hS.F ht⟩) hS.2.2 dMe_numberAt_18
def wp_Or_namesLocal (p1 : Int32) (I : SI) (F : SF) (Post : Int32 → SI → SF → Prop) : Prop := (p1 < 1 → (Post 0 I F)) ∧ (¬ p1 < 1 → ((4 < p1 → (Post 0 I F)) ∧ (¬ 4 < p1 → (Post 1 I F))))
set_option maxHeartbeats 4000000 in
set_option maxRecDepth 100000 in
theorem c_Or_namesLocal (l : Launch) (D : va_G) (a : Nat → Nat) (cI cZ cQ : ClassId) (hJ : xJ 47 a) (I : SI) (F : SF) (p1 : Int32) (sz : Nat) (Post : Int32 → SI → SF → Prop) (hw : wp_Or_namesLocal p1 I F Post) : Met l y_Or_namesLocal (Cond.code y_Or_namesLocal b_Or_namesLocal 1 (some .boolean) :: TB) { frames := 0, cells := 0, slots := 0, locals := 0 } (va_Pc [.int p1] (cP D a cI cZ cQ I F sz)) (va_Qi (fun r (u : SI × SF) => Post r u.1 u.2) (fun u t => va_P D vwCl (cw a cI cZ cQ u.1 u.2) t.heap) (xA 47 a sz)) 0 0 (xA 47 a sz) := by
  refine Met.ofW (cc := b_Or_namesLocal) (maxL := 1) (ret := (some .boolean)) (by decide) rfl ?_
  intro p e s m args below meth c s₁ B hml hv
  obtain ⟨rfl, rfl, hP, hK, hN⟩ := hv
  have hx := B.exec
  have hb := B.bytes
  have hr := B.returns
  have hts : ∀ w ∈ TB, w.before _ s = true := fun w h => atoms_spec (ws := Cond.code y_Or_namesLocal b_Or_namesLocal 1 (some .boolean) :: TB) B.pre w (List.mem_cons_of_mem _ h)
  have hown : s.vm.findClass "CodeJudge$Order" = some m.cls := findClass_of_methodNamed B.named
  have hlocks := B.notSynchronized
  have hl := lv_entry ([.int p1]) (n := 1) (Nat.le_of_ble_eq_true rfl)
  rw [lg_entry_eq]
  generalize (lg_sl ([.int p1]) ++ List.replicate (1 - (lg_sl ([.int p1])).length) Slot.unset).toArray = ls at hl ⊢
  have hl : lv_has ls 1 [(0, .int p1)] := hl
  suffices hM : ∀ (H : Heap) (locs : List Loc), va_P D vwCl (cw a cI cZ cQ I F) H → va_S (xA 47 a s.heap.size) s.heap H locs → W p l e (headSpec (Cond.code y_Or_namesLocal b_Or_namesLocal 1 (some .boolean) :: TB) { frames := 0, cells := 0, slots := 0, locals := 0 }).room s m ([.int p1]).toArray below meth c H locs 0 0 (MQ below (va_Qi (fun r (u : SI × SF) => Post r u.1 u.2) (fun u t => va_P D vwCl (cw a cI cZ cQ u.1 u.2) t.heap) (xA 47 a s.heap.size)) ([.int p1]).toArray s 0 0 (xA 47 a s.heap.size)) (F0 m 0 ls []) from hM s.heap [] hP va_S.rf
  clear hP
  intro H locs hP hS
  dsimp only [wp_Or_namesLocal] at hw
  refine lv_iload_n hx hb dOr_namesLocal_0 rfl (lv_at hl 0 rfl) ?_
  refine lv_iconst (v := 1) hx hb dOr_namesLocal_1 (by decide) ?_
  refine lv_icmp_lt (tgt := 14) hx hb dOr_namesLocal_2 (by decide) (fun h1 => ?_) (fun h1 => ?_)
  · have hw := hw.1 h1
    refine lv_iconst (v := 0) hx hb dOr_namesLocal_14 (by decide) ?_
    exact W.zret (v := 0) hx hb hr rfl (fun t ht hW => ⟨⟨0, (I, F), rfl, hw, by subst ht; exact hP⟩, hS.F ht⟩) hS.2.2 dOr_namesLocal_15
  · have hw := hw.2 h1
    refine lv_iload_n hx hb dOr_namesLocal_5 rfl (lv_at hl 0 rfl) ?_
    refine lv_iconst (v := 4) hx hb dOr_namesLocal_6 (by decide) ?_
    refine lv_icmp_gt (tgt := 14) hx hb dOr_namesLocal_7 (by decide) (fun h2 => ?_) (fun h2 => ?_)
    · have hw := hw.1 h2
      refine lv_iconst (v := 0) hx hb dOr_namesLocal_14 (by decide) ?_
      exact W.zret (v := 0) hx hb hr rfl (fun t ht hW => ⟨⟨0, (I, F), rfl, hw, by subst ht; exact hP⟩, hS.F ht⟩) hS.2.2 dOr_namesLocal_15
    · have hw := hw.2 h2
      refine lv_iconst (v := 1) hx hb dOr_namesLocal_10 (by decide) ?_
      refine lv_goto (tgt := 15) hx hb dOr_namesLocal_11 (by decide) ?_
      exact W.zret (v := 1) hx hb hr rfl (fun t ht hW => ⟨⟨1, (I, F), rfl, hw, by subst ht; exact hP⟩, hS.F ht⟩) hS.2.2 dOr_namesLocal_15
def wp_Or_namesPlace_18 (Post : Int32 → SI → SF → Prop)  (I : SI) (F : SF) : Prop := Post 1 I F
def wp_Or_namesPlace_12 (Post : Int32 → SI → SF → Prop) (x0 : Int32) (I : SI) (F : SF) : Prop := (¬ x0 = 19 → (Post 0 I F)) ∧ (x0 = 19 → (wp_Or_namesPlace_18 Post I F))
def wp_Or_namesPlace (p1 : Int32) (I : SI) (F : SF) (Post : Int32 → SI → SF → Prop) : Prop := (p1 < 14 → (wp_Or_namesPlace_12 Post p1 I F)) ∧ (¬ p1 < 14 → ((p1 ≤ 17 → (wp_Or_namesPlace_18 Post I F)) ∧ (¬ p1 ≤ 17 → (wp_Or_namesPlace_12 Post p1 I F))))
set_option maxHeartbeats 4000000 in
set_option maxRecDepth 100000 in
theorem c_Or_namesPlace (l : Launch) (D : va_G) (a : Nat → Nat) (cI cZ cQ : ClassId) (hJ : xJ 47 a) (I : SI) (F : SF) (p1 : Int32) (sz : Nat) (Post : Int32 → SI → SF → Prop) (hw : wp_Or_namesPlace p1 I F Post) : Met l y_Or_namesPlace (Cond.code y_Or_namesPlace b_Or_namesPlace 1 (some .boolean) :: TB) { frames := 0, cells := 0, slots := 0, locals := 0 } (va_Pc [.int p1] (cP D a cI cZ cQ I F sz)) (va_Qi (fun r (u : SI × SF) => Post r u.1 u.2) (fun u t => va_P D vwCl (cw a cI cZ cQ u.1 u.2) t.heap) (xA 47 a sz)) 0 0 (xA 47 a sz) := by
  refine Met.ofW (cc := b_Or_namesPlace) (maxL := 1) (ret := (some .boolean)) (by decide) rfl ?_
  intro p e s m args below meth c s₁ B hml hv
  obtain ⟨rfl, rfl, hP, hK, hN⟩ := hv
  have hx := B.exec
  have hb := B.bytes
  have hr := B.returns
  have hts : ∀ w ∈ TB, w.before _ s = true := fun w h => atoms_spec (ws := Cond.code y_Or_namesPlace b_Or_namesPlace 1 (some .boolean) :: TB) B.pre w (List.mem_cons_of_mem _ h)
  have hown : s.vm.findClass "CodeJudge$Order" = some m.cls := findClass_of_methodNamed B.named
  have hlocks := B.notSynchronized
  have hl := lv_entry ([.int p1]) (n := 1) (Nat.le_of_ble_eq_true rfl)
  rw [lg_entry_eq]
  generalize (lg_sl ([.int p1]) ++ List.replicate (1 - (lg_sl ([.int p1])).length) Slot.unset).toArray = ls at hl ⊢
  have hl : lv_has ls 1 [(0, .int p1)] := hl
  obtain ⟨Q, hQ⟩ : ∃ Q, Q = MQ below (va_Qi (fun r (u : SI × SF) => Post r u.1 u.2) (fun u t => va_P D vwCl (cw a cI cZ cQ u.1 u.2) t.heap) (xA 47 a s.heap.size)) ([.int p1]).toArray s 0 0 (xA 47 a s.heap.size) := ⟨_, rfl⟩
  rw [← hQ]
  have J18 : ∀ (I : SI) (F : SF) (H : Heap) (locs : List Loc) (ls : Array Slot), lv_has ls 1 [] → va_P D vwCl (cw a cI cZ cQ I F) H → va_S (xA 47 a s.heap.size) s.heap H locs → wp_Or_namesPlace_18 Post I F → W p l e (headSpec (Cond.code y_Or_namesPlace b_Or_namesPlace 1 (some .boolean) :: TB) { frames := 0, cells := 0, slots := 0, locals := 0 }).room s m ([.int p1]).toArray below meth c H locs 0 0 Q (F0 m 18 ls []) := by
    intro I F H locs ls hl hP hS hw
    dsimp only [wp_Or_namesPlace_18] at hw
    refine lv_iconst (v := 1) hx hb dOr_namesPlace_18 (by decide) ?_
    refine lv_goto (tgt := 23) hx hb dOr_namesPlace_19 (by decide) ?_
    rw [hQ]
    exact W.zret (v := 1) hx hb hr rfl (fun t ht hW => ⟨⟨1, (I, F), rfl, hw, by subst ht; exact hP⟩, hS.F ht⟩) hS.2.2 dOr_namesPlace_23
  have J12 : ∀ (x0 : Int32) (I : SI) (F : SF) (H : Heap) (locs : List Loc) (ls : Array Slot), lv_has ls 1 [(0, .int x0)] → va_P D vwCl (cw a cI cZ cQ I F) H → va_S (xA 47 a s.heap.size) s.heap H locs → wp_Or_namesPlace_12 Post x0 I F → W p l e (headSpec (Cond.code y_Or_namesPlace b_Or_namesPlace 1 (some .boolean) :: TB) { frames := 0, cells := 0, slots := 0, locals := 0 }).room s m ([.int p1]).toArray below meth c H locs 0 0 Q (F0 m 12 ls []) := by
    intro x0 I F H locs ls hl hP hS hw
    dsimp only [wp_Or_namesPlace_12] at hw
    refine lv_iload_n hx hb dOr_namesPlace_12 rfl (lv_at hl 0 rfl) ?_
    refine lv_bipush (v := 19) hx hb dOr_namesPlace_13 (by decide) ?_
    refine lv_icmp_ne (tgt := 22) hx hb dOr_namesPlace_15 (by decide) (fun h2 => ?_) (fun h2 => ?_)
    · have hw := hw.1 h2
      refine lv_iconst (v := 0) hx hb dOr_namesPlace_22 (by decide) ?_
      rw [hQ]
      exact W.zret (v := 0) hx hb hr rfl (fun t ht hW => ⟨⟨0, (I, F), rfl, hw, by subst ht; exact hP⟩, hS.F ht⟩) hS.2.2 dOr_namesPlace_23
    · have hw := hw.2 h2
      exact J18 I F H locs ls (lv_sub hl [] rfl) hP hS hw
  suffices hM : ∀ (H : Heap) (locs : List Loc), va_P D vwCl (cw a cI cZ cQ I F) H → va_S (xA 47 a s.heap.size) s.heap H locs → W p l e (headSpec (Cond.code y_Or_namesPlace b_Or_namesPlace 1 (some .boolean) :: TB) { frames := 0, cells := 0, slots := 0, locals := 0 }).room s m ([.int p1]).toArray below meth c H locs 0 0 (Q) (F0 m 0 ls []) from hM s.heap [] hP va_S.rf
  clear hP
  intro H locs hP hS
  dsimp only [wp_Or_namesPlace] at hw
  refine lv_iload_n hx hb dOr_namesPlace_0 rfl (lv_at hl 0 rfl) ?_
  refine lv_bipush (v := 14) hx hb dOr_namesPlace_1 (by decide) ?_
  refine lv_icmp_lt (tgt := 12) hx hb dOr_namesPlace_3 (by decide) (fun h1 => ?_) (fun h1 => ?_)
  · have hw := hw.1 h1
    exact J12 p1 I F H locs ls (lv_sub hl [0] rfl) hP hS hw
  · have hw := hw.2 h1
    refine lv_iload_n hx hb dOr_namesPlace_6 rfl (lv_at hl 0 rfl) ?_
    refine lv_bipush (v := 17) hx hb dOr_namesPlace_7 (by decide) ?_
    refine lv_icmp_le (tgt := 18) hx hb dOr_namesPlace_9 (by decide) (fun h3 => ?_) (fun h3 => ?_)
    · have hw := hw.1 h3
      exact J18 I F H locs ls (lv_sub hl [] rfl) hP hS hw
    · have hw := hw.2 h3
      exact J12 p1 I F H locs ls (lv_sub hl [0] rfl) hP hS hw
def wp_Ju_isThere_53 (Post : Int32 → SI → SF → Prop)  (I : SI) (F : SF) : Prop := Post 1 I F
def wp_Ju_isThere (k2 : Nat) (p3 : Int32) (p4 : Int32) (I : SI) (F : SF) (Post : Int32 → SI → SF → Prop) : Prop := ∃ P1 : Int32 → SI → SF → Prop, wp_Or_namesLocal p3 I F P1 ∧ ∀ r1 I1 F1, P1 r1 I1 F1 → ((r1 = 0 → (∃ P3 : Int32 → SI → SF → Prop, wp_Or_namesPlace p3 I1 F1 P3 ∧ ∀ r3 I3 F3, P3 r3 I3 F3 → ((r3 = 0 → ((¬ p3 = 23 → (wp_Ju_isThere_53 Post I3 F3)) ∧ (p3 = 23 → (∃ P6 : Int32 → SI → SF → Prop, wp_CJ_isBelow p4 8 I3 F3 P6 ∧ ∀ r6 I6 F6, P6 r6 I6 F6 → ((r6 = 0 → (Post 0 I6 F6)) ∧ (¬ r6 = 0 → (vp_in p4 8 ∧ (((I6 (20 + 10 * p4.toNatClampNeg)) = 0 → (Post 0 I6 F6)) ∧ (¬ (I6 (20 + 10 * p4.toNatClampNeg)) = 0 → (wp_Ju_isThere_53 Post I6 F6)))))))))) ∧ (¬ r3 = 0 → (∃ P10 : Int32 → SI → SF → Prop, wp_Me_has k2 p4 I3 F3 P10 ∧ ∀ r10 I10 F10, P10 r10 I10 F10 → (bo r10 ∧ Post r10 I10 F10)))))) ∧ (¬ r1 = 0 → (∃ P12 : Int32 → SI → SF → Prop, wp_CJ_isBelow p4 (I1 (24 + 10 * k2)) I1 F1 P12 ∧ ∀ r12 I12 F12, P12 r12 I12 F12 → (bo r12 ∧ Post r12 I12 F12))))
set_option maxHeartbeats 4000000 in
set_option maxRecDepth 100000 in
theorem c_Ju_isThere (l : Launch) (D : va_G) (a : Nat → Nat) (cI cZ cQ : ClassId) (hJ : xJ 47 a) (I : SI) (F : SF) (k2 : Nat) (p3 : Int32) (p4 : Int32) (hk2 : k2 < 8) (sz : Nat) (Post : Int32 → SI → SF → Prop) (hw : wp_Ju_isThere k2 p3 p4 I F Post) : Met l y_Ju_isThere (Cond.code y_Ju_isThere b_Ju_isThere 4 (some .boolean) :: TB) { frames := 2, cells := 0, slots := 0, locals := 42 } (va_Pc [.ref (a 1), .ref (a (23 + 3 * k2)), .int p3, .int p4] (cP D a cI cZ cQ I F sz)) (va_Qi (fun r (u : SI × SF) => Post r u.1 u.2) (fun u t => va_P D vwCl (cw a cI cZ cQ u.1 u.2) t.heap) (xA 47 a sz)) 0 0 (xA 47 a sz) := by
  refine Met.ofW (cc := b_Ju_isThere) (maxL := 4) (ret := (some .boolean)) (by decide) rfl ?_
  intro p e s m args below meth c s₁ B hml hv
  obtain ⟨rfl, rfl, hP, hK, hN⟩ := hv
  have hx := B.exec
  have hb := B.bytes
  have hr := B.returns
  have hts : ∀ w ∈ TB, w.before _ s = true := fun w h => atoms_spec (ws := Cond.code y_Ju_isThere b_Ju_isThere 4 (some .boolean) :: TB) B.pre w (List.mem_cons_of_mem _ h)
  have hown : s.vm.findClass "CodeJudge$Judge" = some m.cls := findClass_of_methodNamed B.named
  have hlocks := B.notSynchronized
  have hl := lv_entry ([.ref (a 1), .ref (a (23 + 3 * k2)), .int p3, .int p4]) (n := 4) (Nat.le_of_ble_eq_true rfl)
  rw [lg_entry_eq]
  generalize (lg_sl ([.ref (a 1), .ref (a (23 + 3 * k2)), .int p3, .int p4]) ++ List.replicate (4 - (lg_sl ([.ref (a 1), .ref (a (23 + 3 * k2)), .int p3, .int p4])).length) Slot.unset).toArray = ls at hl ⊢
  have hl : lv_has ls 4 [(0, .ref (a 1)), (1, .ref (a (23 + 3 * k2))), (2, .int p3), (3, .int p4)] := hl
  obtain ⟨Q, hQ⟩ : ∃ Q, Q = MQ below (va_Qi (fun r (u : SI × SF) => Post r u.1 u.2) (fun u t => va_P D vwCl (cw a cI cZ cQ u.1 u.2) t.heap) (xA 47 a s.heap.size)) ([.ref (a 1), .ref (a (23 + 3 * k2)), .int p3, .int p4]).toArray s 0 0 (xA 47 a s.heap.size) := ⟨_, rfl⟩
  rw [← hQ]
  have J53 : ∀ (I : SI) (F : SF) (H : Heap) (locs : List Loc) (ls : Array Slot), lv_has ls 4 [] → va_P D vwCl (cw a cI cZ cQ I F) H → va_S (xA 47 a s.heap.size) s.heap H locs → wp_Ju_isThere_53 Post I F → W p l e (headSpec (Cond.code y_Ju_isThere b_Ju_isThere 4 (some .boolean) :: TB) { frames := 2, cells := 0, slots := 0, locals := 42 }).room s m ([.ref (a 1), .ref (a (23 + 3 * k2)), .int p3, .int p4]).toArray below meth c H locs 0 0 Q (F0 m 53 ls []) := by
    intro I F H locs ls hl hP hS hw
    dsimp only [wp_Ju_isThere_53] at hw
    refine lv_iconst (v := 1) hx hb dJu_isThere_53 (by decide) ?_
    refine lv_goto (tgt := 58) hx hb dJu_isThere_54 (by decide) ?_
    rw [hQ]
    exact W.zret (v := 1) hx hb hr rfl (fun t ht hW => ⟨⟨1, (I, F), rfl, hw, by subst ht; exact hP⟩, hS.F ht⟩) hS.2.2 dJu_isThere_58
  suffices hM : ∀ (H : Heap) (locs : List Loc), va_P D vwCl (cw a cI cZ cQ I F) H → va_S (xA 47 a s.heap.size) s.heap H locs → W p l e (headSpec (Cond.code y_Ju_isThere b_Ju_isThere 4 (some .boolean) :: TB) { frames := 2, cells := 0, slots := 0, locals := 42 }).room s m ([.ref (a 1), .ref (a (23 + 3 * k2)), .int p3, .int p4]).toArray below meth c H locs 0 0 (Q) (F0 m 0 ls []) from hM s.heap [] hP va_S.rf
  clear hP
  intro H locs hP hS
  dsimp only [wp_Ju_isThere] at hw
  refine lv_iload_n hx hb dJu_isThere_0 rfl (lv_at hl 2 rfl) ?_
  obtain ⟨P1, hc1, hw⟩ := hw
  refine cc_i (va_runS (As := [.int p3]) (rest := []) ⟨hx, hb, hml, hown, hts⟩ (c_Or_namesLocal l D a cI cZ cQ hJ I F p3 H.size P1 hc1) (va_cwS 1 hts (tb_S wc_Or_namesLocal tw_2_198 tw_2_199 tw_1_16) rfl rfl rfl (by decide +kernel) ⟨Nat.le_of_ble_eq_true rfl, Nat.le_of_ble_eq_true rfl⟩) ⟨cP_bl, cP_at hP hK hN⟩ rfl rfl hl.1 rfl (lv_room (Nat.le_of_ble_eq_true rfl)) dJu_isThere_1 ⟨Nat.le_of_ble_eq_true rfl, Nat.le_of_ble_eq_true rfl⟩) hS (fun r1 I1 F1 H locs hP hp1 hS => ?_)
  have hw := hw r1 I1 F1 hp1
  refine lv_if_eq (tgt := 16) hx hb dJu_isThere_4 (by decide) (fun h2 => ?_) (fun h2 => ?_)
  · have hw := hw.1 h2
    refine lv_iload_n hx hb dJu_isThere_16 rfl (lv_at hl 2 rfl) ?_
    obtain ⟨P3, hc3, hw⟩ := hw
    refine cc_i (va_runS (As := [.int p3]) (rest := []) ⟨hx, hb, hml, hown, hts⟩ (c_Or_namesPlace l D a cI cZ cQ hJ I1 F1 p3 H.size P3 hc3) (va_cwS 1 hts (tb_S wc_Or_namesPlace tw_2_202 tw_2_203 tw_1_16) rfl rfl rfl (by decide +kernel) ⟨Nat.le_of_ble_eq_true rfl, Nat.le_of_ble_eq_true rfl⟩) ⟨cP_bl, cP_at hP hK hN⟩ rfl rfl hl.1 rfl (lv_room (Nat.le_of_ble_eq_true rfl)) dJu_isThere_17 ⟨Nat.le_of_ble_eq_true rfl, Nat.le_of_ble_eq_true rfl⟩) hS (fun r3 I3 F3 H locs hP hp3 hS => ?_)
    have hw := hw r3 I3 F3 hp3
    refine lv_if_eq (tgt := 29) hx hb dJu_isThere_20 (by decide) (fun h4 => ?_) (fun h4 => ?_)
    · have hw := hw.1 h4
      refine lv_iload_n hx hb dJu_isThere_29 rfl (lv_at hl 2 rfl) ?_
      refine lv_bipush (v := 23) hx hb dJu_isThere_30 (by decide) ?_
      refine lv_icmp_ne (tgt := 53) hx hb dJu_isThere_32 (by decide) (fun h5 => ?_) (fun h5 => ?_)
      · have hw := hw.1 h5
        exact J53 I3 F3 H locs ls (lv_sub hl [] rfl) hP hS hw
      · have hw := hw.2 h5
        refine lv_iload_n hx hb dJu_isThere_35 rfl (lv_at hl 3 rfl) ?_
        refine lv_bipush (v := 8) hx hb dJu_isThere_36 (by decide) ?_
        obtain ⟨P6, hc6, hw⟩ := hw
        refine cc_i (va_runSN (As := [.int p4, .int 8]) (rest := []) ⟨hx, hb, hml, hown, hts⟩ (c_CJ_isBelow l D a cI cZ cQ hJ I3 F3 p4 8 H.size P6 hc6) (⟨va_cnB 2 hts (tb_self wc_CJ_isBelow) rfl rfl rfl (hN ("CodeJudge$Judge", 101, ⟨"CodeJudge", "isBelow", "(II)Z"⟩, "CodeJudge") (by decide +kernel)) (hts (.initialized "CodeJudge") tw_1_1) (by decide +kernel) ⟨Nat.le_of_ble_eq_true rfl, Nat.le_of_ble_eq_true rfl⟩, hts (.static ⟨"CodeJudge", "isBelow", "(II)Z"⟩) tw_2_7, trivial⟩) ⟨cP_bl, cP_at hP hK hN⟩ rfl rfl hl.1 rfl (lv_room (Nat.le_of_ble_eq_true rfl)) dJu_isThere_38 ⟨Nat.le_of_ble_eq_true rfl, Nat.le_of_ble_eq_true rfl⟩) hS (fun r6 I6 F6 H locs hP hp6 hS => ?_)
        have hw := hw r6 I6 F6 hp6
        refine lv_if_eq (tgt := 57) hx hb dJu_isThere_41 (by decide) (fun h7 => ?_) (fun h7 => ?_)
        · have hw := hw.1 h7
          refine lv_iconst (v := 0) hx hb dJu_isThere_57 (by decide) ?_
          rw [hQ]
          exact W.zret (v := 0) hx hb hr rfl (fun t ht hW => ⟨⟨0, (I6, F6), rfl, hw, by subst ht; exact hP⟩, hS.F ht⟩) hS.2.2 dJu_isThere_58
        · have hw := hw.2 h7
          refine lv_aload_n hx hb dJu_isThere_44 rfl (lv_at hl 0 rfl) ?_
          refine lv_iload_n hx hb dJu_isThere_45 rfl (lv_at hl 3 rfl) ?_
          obtain ⟨h8, hw⟩ := hw
          refine va_aldq hx hb hK hP 1 2 cw_1 rfl h8 dJu_isThere_46 ?_
          have kh8 := vin_lt h8
          refine va_get (D := D) (v := .int (I6 (20 + 10 * p4.toNatClampNeg))) (ci := 4) (C := "CodeJudge$Method") (T := T_Me) (N := 9) hx hb hts in_Me hown hK hP (23 + 3 * p4.toNatClampNeg) (cw_M kh8) rfl 0 (by decide) (hts (.fieldLink "CodeJudge$Judge" 108 "CodeJudge$Method" "there" "Z") tw_1_36) (fun _ h9 => h9) rfl dJu_isThere_47 ?_
          refine lv_if_eq (tgt := 57) hx hb dJu_isThere_50 (by decide) (fun h9 => ?_) (fun h9 => ?_)
          · have hw := hw.1 h9
            refine lv_iconst (v := 0) hx hb dJu_isThere_57 (by decide) ?_
            rw [hQ]
            exact W.zret (v := 0) hx hb hr rfl (fun t ht hW => ⟨⟨0, (I6, F6), rfl, hw, by subst ht; exact hP⟩, hS.F ht⟩) hS.2.2 dJu_isThere_58
          · have hw := hw.2 h9
            exact J53 I6 F6 H locs ls (lv_sub hl [] rfl) hP hS hw
    · have hw := hw.2 h4
      refine lv_aload_n hx hb dJu_isThere_23 rfl (lv_at hl 1 rfl) ?_
      refine lv_iload_n hx hb dJu_isThere_24 rfl (lv_at hl 3 rfl) ?_
      obtain ⟨P10, hc10, hw⟩ := hw
      refine cc_i (va_runV (As := [.int p4]) (rest := []) ⟨hx, hb, hml, hown, hts⟩ (c_Me_has l D a cI cZ cQ hJ I3 F3 k2 p4 hk2 H.size P10 hc10) (cwV 1 hts (tb_V (C := "CodeJudge$Method") wc_Me_has tw_2_181 tw_2_138 tw_2_139 tw_1_2) rfl rfl rfl (by decide +kernel) ⟨Nat.le_of_ble_eq_true rfl, Nat.le_of_ble_eq_true rfl⟩) ⟨cP_bl, va_recv hK hP rfl (cw_M hk2), cP_at hP hK hN⟩ rfl rfl hl.1 rfl (lv_room (Nat.le_of_ble_eq_true rfl)) dJu_isThere_25 ⟨Nat.le_of_ble_eq_true rfl, Nat.le_of_ble_eq_true rfl⟩) hS (fun r10 I10 F10 H locs hP hp10 hS => ?_)
      have hw := hw r10 I10 F10 hp10
      obtain ⟨h11, hw⟩ := hw
      rw [hQ]
      exact W.zret (v := r10) hx hb hr (bo_n h11) (fun t ht hW => ⟨⟨r10, (I10, F10), rfl, hw, by subst ht; exact hP⟩, hS.F ht⟩) hS.2.2 dJu_isThere_28
  · have hw := hw.2 h2
    refine lv_iload_n hx hb dJu_isThere_7 rfl (lv_at hl 3 rfl) ?_
    refine lv_aload_n hx hb dJu_isThere_8 rfl (lv_at hl 1 rfl) ?_
    refine va_get (D := D) (v := .int (I1 (24 + 10 * k2))) (ci := 4) (C := "CodeJudge$Method") (T := T_Me) (N := 9) hx hb hts in_Me hown hK hP (23 + 3 * k2) (cw_M hk2) rfl 4 (by decide) (hts (.fieldLink "CodeJudge$Judge" 98 "CodeJudge$Method" "locals" "I") tw_1_46) (fun _ h9 => h9) rfl dJu_isThere_9 ?_
    obtain ⟨P12, hc12, hw⟩ := hw
    refine cc_i (va_runSN (As := [.int p4, .int (I1 (24 + 10 * k2))]) (rest := []) ⟨hx, hb, hml, hown, hts⟩ (c_CJ_isBelow l D a cI cZ cQ hJ I1 F1 p4 (I1 (24 + 10 * k2)) H.size P12 hc12) (⟨va_cnB 2 hts (tb_self wc_CJ_isBelow) rfl rfl rfl (hN ("CodeJudge$Judge", 101, ⟨"CodeJudge", "isBelow", "(II)Z"⟩, "CodeJudge") (by decide +kernel)) (hts (.initialized "CodeJudge") tw_1_1) (by decide +kernel) ⟨Nat.le_of_ble_eq_true rfl, Nat.le_of_ble_eq_true rfl⟩, hts (.static ⟨"CodeJudge", "isBelow", "(II)Z"⟩) tw_2_7, trivial⟩) ⟨cP_bl, cP_at hP hK hN⟩ rfl rfl hl.1 rfl (lv_room (Nat.le_of_ble_eq_true rfl)) dJu_isThere_12 ⟨Nat.le_of_ble_eq_true rfl, Nat.le_of_ble_eq_true rfl⟩) hS (fun r12 I12 F12 H locs hP hp12 hS => ?_)
    have hw := hw r12 I12 F12 hp12
    obtain ⟨h13, hw⟩ := hw
    rw [hQ]
    exact W.zret (v := r12) hx hb hr (bo_n h13) (fun t ht hW => ⟨⟨r12, (I12, F12), rfl, hw, by subst ht; exact hP⟩, hS.F ht⟩) hS.2.2 dJu_isThere_15
def wp_Sh_hasInLocal_16 (Post : Int32 → SI → SF → Prop) (x1 : Int32) (s0 : Int32) (I : SI) (F : SF) : Prop := (((s0 >>> (x1 &&& 31)) &&& 1) = 0 → (Post 0 I F)) ∧ (¬ ((s0 >>> (x1 &&& 31)) &&& 1) = 0 → (Post 1 I F))
def wp_Sh_hasInLocal (p1 : Int32) (p2 : Int32) (I : SI) (F : SF) (Post : Int32 → SI → SF → Prop) : Prop := (¬ p2 = 1 → (wp_Sh_hasInLocal_16 Post p1 (I 8) I F)) ∧ (p2 = 1 → (wp_Sh_hasInLocal_16 Post p1 (I 7) I F))
set_option maxHeartbeats 4000000 in
set_option maxRecDepth 100000 in
theorem c_Sh_hasInLocal (l : Launch) (D : va_G) (a : Nat → Nat) (cI cZ cQ : ClassId) (hJ : xJ 47 a) (I : SI) (F : SF) (p1 : Int32) (p2 : Int32) (sz : Nat) (Post : Int32 → SI → SF → Prop) (hw : wp_Sh_hasInLocal p1 p2 I F Post) : Met l y_Sh_hasInLocal (Cond.code y_Sh_hasInLocal b_Sh_hasInLocal 3 (some .boolean) :: TB) { frames := 0, cells := 0, slots := 0, locals := 0 } (va_Pc [.ref (a 10), .int p1, .int p2] (cP D a cI cZ cQ I F sz)) (va_Qi (fun r (u : SI × SF) => Post r u.1 u.2) (fun u t => va_P D vwCl (cw a cI cZ cQ u.1 u.2) t.heap) (xA 47 a sz)) 0 0 (xA 47 a sz) := by
  refine Met.ofW (cc := b_Sh_hasInLocal) (maxL := 3) (ret := (some .boolean)) (by decide) rfl ?_
  intro p e s m args below meth c s₁ B hml hv
  obtain ⟨rfl, rfl, hP, hK, hN⟩ := hv
  have hx := B.exec
  have hb := B.bytes
  have hr := B.returns
  have hts : ∀ w ∈ TB, w.before _ s = true := fun w h => atoms_spec (ws := Cond.code y_Sh_hasInLocal b_Sh_hasInLocal 3 (some .boolean) :: TB) B.pre w (List.mem_cons_of_mem _ h)
  have hown : s.vm.findClass "CodeJudge$Shape" = some m.cls := findClass_of_methodNamed B.named
  have hlocks := B.notSynchronized
  have hl := lv_entry ([.ref (a 10), .int p1, .int p2]) (n := 3) (Nat.le_of_ble_eq_true rfl)
  rw [lg_entry_eq]
  generalize (lg_sl ([.ref (a 10), .int p1, .int p2]) ++ List.replicate (3 - (lg_sl ([.ref (a 10), .int p1, .int p2])).length) Slot.unset).toArray = ls at hl ⊢
  have hl : lv_has ls 3 [(0, .ref (a 10)), (1, .int p1), (2, .int p2)] := hl
  obtain ⟨Q, hQ⟩ : ∃ Q, Q = MQ below (va_Qi (fun r (u : SI × SF) => Post r u.1 u.2) (fun u t => va_P D vwCl (cw a cI cZ cQ u.1 u.2) t.heap) (xA 47 a s.heap.size)) ([.ref (a 10), .int p1, .int p2]).toArray s 0 0 (xA 47 a s.heap.size) := ⟨_, rfl⟩
  rw [← hQ]
  have J16 : ∀ (x1 : Int32) (s0 : Int32) (I : SI) (F : SF) (H : Heap) (locs : List Loc) (ls : Array Slot), lv_has ls 3 [(1, .int x1)] → va_P D vwCl (cw a cI cZ cQ I F) H → va_S (xA 47 a s.heap.size) s.heap H locs → wp_Sh_hasInLocal_16 Post x1 s0 I F → W p l e (headSpec (Cond.code y_Sh_hasInLocal b_Sh_hasInLocal 3 (some .boolean) :: TB) { frames := 0, cells := 0, slots := 0, locals := 0 }).room s m ([.ref (a 10), .int p1, .int p2]).toArray below meth c H locs 0 0 Q (F0 m 16 ls [.int s0]) := by
    intro x1 s0 I F H locs ls hl hP hS hw
    dsimp only [wp_Sh_hasInLocal_16] at hw
    refine lv_iload_n hx hb dSh_hasInLocal_16 rfl (lv_at hl 0 rfl) ?_
    refine lv_ishr hx hb dSh_hasInLocal_17 ?_
    refine lv_iconst (v := 1) hx hb dSh_hasInLocal_18 (by decide) ?_
    refine lv_iand hx hb dSh_hasInLocal_19 ?_
    refine lv_if_eq (tgt := 27) hx hb dSh_hasInLocal_20 (by decide) (fun h2 => ?_) (fun h2 => ?_)
    · have hw := hw.1 h2
      refine lv_iconst (v := 0) hx hb dSh_hasInLocal_27 (by decide) ?_
      rw [hQ]
      exact W.zret (v := 0) hx hb hr rfl (fun t ht hW => ⟨⟨0, (I, F), rfl, hw, by subst ht; exact hP⟩, hS.F ht⟩) hS.2.2 dSh_hasInLocal_28
    · have hw := hw.2 h2
      refine lv_iconst (v := 1) hx hb dSh_hasInLocal_23 (by decide) ?_
      refine lv_goto (tgt := 28) hx hb dSh_hasInLocal_24 (by decide) ?_
      rw [hQ]
      exact W.zret (v := 1) hx hb hr rfl (fun t ht hW => ⟨⟨1, (I, F), rfl, hw, by subst ht; exact hP⟩, hS.F ht⟩) hS.2.2 dSh_hasInLocal_28
  suffices hM : ∀ (H : Heap) (locs : List Loc), va_P D vwCl (cw a cI cZ cQ I F) H → va_S (xA 47 a s.heap.size) s.heap H locs → W p l e (headSpec (Cond.code y_Sh_hasInLocal b_Sh_hasInLocal 3 (some .boolean) :: TB) { frames := 0, cells := 0, slots := 0, locals := 0 }).room s m ([.ref (a 10), .int p1, .int p2]).toArray below meth c H locs 0 0 (Q) (F0 m 0 ls []) from hM s.heap [] hP va_S.rf
  clear hP
  intro H locs hP hS
  dsimp only [wp_Sh_hasInLocal] at hw
  refine lv_iload_n hx hb dSh_hasInLocal_0 rfl (lv_at hl 2 rfl) ?_
  refine lv_iconst (v := 1) hx hb dSh_hasInLocal_1 (by decide) ?_
  refine lv_icmp_ne (tgt := 12) hx hb dSh_hasInLocal_2 (by decide) (fun h1 => ?_) (fun h1 => ?_)
  · have hw := hw.1 h1
    refine lv_aload_n hx hb dSh_hasInLocal_12 rfl (lv_at hl 0 rfl) ?_
    refine va_get (D := D) (v := .int (I 8)) (ci := 6) (C := "CodeJudge$Shape") (T := T_Sh) (N := 4) hx hb hts in_Sh hown hK hP 10 cw_10 rfl 3 (by decide) (hts (.fieldLink "CodeJudge$Shape" 25 "CodeJudge$Shape" "arrayLocals" "I") tw_1_94) (fun _ h9 => h9) rfl dSh_hasInLocal_13 ?_
    exact J16 p1 (I 8) I F H locs ls (lv_sub hl [1] rfl) hP hS hw
  · have hw := hw.2 h1
    refine lv_aload_n hx hb dSh_hasInLocal_5 rfl (lv_at hl 0 rfl) ?_
    refine va_get (D := D) (v := .int (I 7)) (ci := 6) (C := "CodeJudge$Shape") (T := T_Sh) (N := 4) hx hb hts in_Sh hown hK hP 10 cw_10 rfl 2 (by decide) (hts (.fieldLink "CodeJudge$Shape" 22 "CodeJudge$Shape" "intLocals" "I") tw_1_92) (fun _ h9 => h9) rfl dSh_hasInLocal_6 ?_
    refine lv_goto (tgt := 16) hx hb dSh_hasInLocal_9 (by decide) ?_
    exact J16 p1 (I 7) I F H locs ls (lv_sub hl [1] rfl) hP hS hw
def wp_Sh_put_20 (Post : Int32 → SI → SF → Prop) (x1 : Int32) (I : SI) (F : SF) : Prop := (x1 = 0 → (Post 1 I F)) ∧ (¬ x1 = 0 → (Post 1 (va_up I 5 ((I 5) + 1)) F))
def wp_Sh_put (p1 : Int32) (I : SI) (F : SF) (Post : Int32 → SI → SF → Prop) : Prop := (¬ p1 = 2 → (wp_Sh_put_20 Post p1 I F)) ∧ (p1 = 2 → (wp_Sh_put_20 Post p1 (va_up I 6 ((I 6) ||| ((1 : Int32) <<< ((I 5) &&& 31)))) F))
set_option maxHeartbeats 4000000 in
set_option maxRecDepth 100000 in
theorem c_Sh_put (l : Launch) (D : va_G) (a : Nat → Nat) (cI cZ cQ : ClassId) (hJ : xJ 47 a) (I : SI) (F : SF) (p1 : Int32) (sz : Nat) (Post : Int32 → SI → SF → Prop) (hw : wp_Sh_put p1 I F Post) : Met l y_Sh_put (Cond.code y_Sh_put b_Sh_put 2 (some .boolean) :: TB) { frames := 0, cells := 0, slots := 0, locals := 0 } (va_Pc [.ref (a 10), .int p1] (cP D a cI cZ cQ I F sz)) (va_Qi (fun r (u : SI × SF) => Post r u.1 u.2) (fun u t => va_P D vwCl (cw a cI cZ cQ u.1 u.2) t.heap) (xA 47 a sz)) 0 0 (xA 47 a sz) := by
  refine Met.ofW (cc := b_Sh_put) (maxL := 2) (ret := (some .boolean)) (by decide) rfl ?_
  intro p e s m args below meth c s₁ B hml hv
  obtain ⟨rfl, rfl, hP, hK, hN⟩ := hv
  have hx := B.exec
  have hb := B.bytes
  have hr := B.returns
  have hts : ∀ w ∈ TB, w.before _ s = true := fun w h => atoms_spec (ws := Cond.code y_Sh_put b_Sh_put 2 (some .boolean) :: TB) B.pre w (List.mem_cons_of_mem _ h)
  have hown : s.vm.findClass "CodeJudge$Shape" = some m.cls := findClass_of_methodNamed B.named
  have hlocks := B.notSynchronized
  have hl := lv_entry ([.ref (a 10), .int p1]) (n := 2) (Nat.le_of_ble_eq_true rfl)
  rw [lg_entry_eq]
  generalize (lg_sl ([.ref (a 10), .int p1]) ++ List.replicate (2 - (lg_sl ([.ref (a 10), .int p1])).length) Slot.unset).toArray = ls at hl ⊢
  have hl : lv_has ls 2 [(0, .ref (a 10)), (1, .int p1)] := hl
  obtain ⟨Q, hQ⟩ : ∃ Q, Q = MQ below (va_Qi (fun r (u : SI × SF) => Post r u.1 u.2) (fun u t => va_P D vwCl (cw a cI cZ cQ u.1 u.2) t.heap) (xA 47 a s.heap.size)) ([.ref (a 10), .int p1]).toArray s 0 0 (xA 47 a s.heap.size) := ⟨_, rfl⟩
  rw [← hQ]
  have J20 : ∀ (x1 : Int32) (I : SI) (F : SF) (H : Heap) (locs : List Loc) (ls : Array Slot), lv_has ls 2 [(0, .ref (a 10)), (1, .int x1)] → va_P D vwCl (cw a cI cZ cQ I F) H → va_S (xA 47 a s.heap.size) s.heap H locs → wp_Sh_put_20 Post x1 I F → W p l e (headSpec (Cond.code y_Sh_put b_Sh_put 2 (some .boolean) :: TB) { frames := 0, cells := 0, slots := 0, locals := 0 }).room s m ([.ref (a 10), .int p1]).toArray below meth c H locs 0 0 Q (F0 m 20 ls []) := by
    intro x1 I F H locs ls hl hP hS hw
    dsimp only [wp_Sh_put_20] at hw
    refine lv_iload_n hx hb dSh_put_20 rfl (lv_at hl 1 rfl) ?_
    refine lv_if_eq (tgt := 34) hx hb dSh_put_21 (by decide) (fun h2 => ?_) (fun h2 => ?_)
    · have hw := hw.1 h2
      refine lv_iconst (v := 1) hx hb dSh_put_34 (by decide) ?_
      rw [hQ]
      exact W.zret (v := 1) hx hb hr rfl (fun t ht hW => ⟨⟨1, (I, F), rfl, hw, by subst ht; exact hP⟩, hS.F ht⟩) hS.2.2 dSh_put_35
    · have hw := hw.2 h2
      refine lv_aload_n hx hb dSh_put_24 rfl (lv_at hl 0 rfl) ?_
      refine lv_dup hx hb dSh_put_25 rfl ?_
      refine va_get (D := D) (v := .int (I 5)) (ci := 6) (C := "CodeJudge$Shape") (T := T_Sh) (N := 4) hx hb hts in_Sh hown hK hP 10 cw_10 rfl 0 (by decide) (hts (.fieldLink "CodeJudge$Shape" 9 "CodeJudge$Shape" "high" "I") tw_1_87) (fun _ h9 => h9) rfl dSh_put_26 ?_
      refine lv_iconst (v := 1) hx hb dSh_put_29 (by decide) ?_
      refine lv_iadd hx hb dSh_put_30 ?_
      refine va_put (D := D) (ci := 6) (v := .int ((I 5) + 1)) (ty := .int) (C := "CodeJudge$Shape") (T := T_Sh) (N := 4) hx hb hts in_Sh ty_Sh ok_Sh nm_Sh hown hK hP (cD hJ) hS 10 cw_10 rfl 0 (by decide) (hts (.fieldLink "CodeJudge$Shape" 9 "CodeJudge$Shape" "high" "I") tw_1_87) (fun _ h9 => h9) rfl (by decide +kernel) rfl rfl (Nat.le_of_ble_eq_true rfl) dSh_put_31 (fun H locs hP _ hS => ?_)
      have hP := cwp_5 hP
      refine lv_iconst (v := 1) hx hb dSh_put_34 (by decide) ?_
      rw [hQ]
      exact W.zret (v := 1) hx hb hr rfl (fun t ht hW => ⟨⟨1, ((va_up I 5 ((I 5) + 1)), F), rfl, hw, by subst ht; exact hP⟩, hS.F ht⟩) hS.2.2 dSh_put_35
  suffices hM : ∀ (H : Heap) (locs : List Loc), va_P D vwCl (cw a cI cZ cQ I F) H → va_S (xA 47 a s.heap.size) s.heap H locs → W p l e (headSpec (Cond.code y_Sh_put b_Sh_put 2 (some .boolean) :: TB) { frames := 0, cells := 0, slots := 0, locals := 0 }).room s m ([.ref (a 10), .int p1]).toArray below meth c H locs 0 0 (Q) (F0 m 0 ls []) from hM s.heap [] hP va_S.rf
  clear hP
  intro H locs hP hS
  dsimp only [wp_Sh_put] at hw
  refine lv_iload_n hx hb dSh_put_0 rfl (lv_at hl 1 rfl) ?_
  refine lv_iconst (v := 2) hx hb dSh_put_1 (by decide) ?_
  refine lv_icmp_ne (tgt := 20) hx hb dSh_put_2 (by decide) (fun h1 => ?_) (fun h1 => ?_)
  · have hw := hw.1 h1
    exact J20 p1 I F H locs ls (lv_sub hl [0, 1] rfl) hP hS hw
  · have hw := hw.2 h1
    refine lv_aload_n hx hb dSh_put_5 rfl (lv_at hl 0 rfl) ?_
    refine lv_dup hx hb dSh_put_6 rfl ?_
    refine va_get (D := D) (v := .int (I 6)) (ci := 6) (C := "CodeJudge$Shape") (T := T_Sh) (N := 4) hx hb hts in_Sh hown hK hP 10 cw_10 rfl 1 (by decide) (hts (.fieldLink "CodeJudge$Shape" 15 "CodeJudge$Shape" "stack" "I") tw_1_89) (fun _ h9 => h9) rfl dSh_put_7 ?_
    refine lv_iconst (v := 1) hx hb dSh_put_10 (by decide) ?_
    refine lv_aload_n hx hb dSh_put_11 rfl (lv_at hl 0 rfl) ?_
    refine va_get (D := D) (v := .int (I 5)) (ci := 6) (C := "CodeJudge$Shape") (T := T_Sh) (N := 4) hx hb hts in_Sh hown hK hP 10 cw_10 rfl 0 (by decide) (hts (.fieldLink "CodeJudge$Shape" 9 "CodeJudge$Shape" "high" "I") tw_1_87) (fun _ h9 => h9) rfl dSh_put_12 ?_
    refine lv_ishl hx hb dSh_put_15 ?_
    refine lv_ior hx hb dSh_put_16 ?_
    refine va_put (D := D) (ci := 6) (v := .int ((I 6) ||| ((1 : Int32) <<< ((I 5) &&& 31)))) (ty := .int) (C := "CodeJudge$Shape") (T := T_Sh) (N := 4) hx hb hts in_Sh ty_Sh ok_Sh nm_Sh hown hK hP (cD hJ) hS 10 cw_10 rfl 1 (by decide) (hts (.fieldLink "CodeJudge$Shape" 15 "CodeJudge$Shape" "stack" "I") tw_1_89) (fun _ h9 => h9) rfl (by decide +kernel) rfl rfl (Nat.le_of_ble_eq_true rfl) dSh_put_17 (fun H locs hP _ hS => ?_)
    have hP := cwp_6 hP
    exact J20 p1 (va_up I 6 ((I 6) ||| ((1 : Int32) <<< ((I 5) &&& 31)))) F H locs ls (lv_sub hl [0, 1] rfl) hP hS hw
def wp_Sh_take (p1 : Int32) (p2 : Int32) (I : SI) (F : SF) (Post : Int32 → SI → SF → Prop) : Prop := ((I 5) < p1 → (Post 0 I F)) ∧ (¬ (I 5) < p1 → ((((I 6) >>> (((I 5) - p1) &&& 31)) = p2 → (Post 1 (va_up (va_up I 5 ((I 5) - p1)) 6 ((I 6) &&& (((1 : Int32) <<< (((I 5) - p1) &&& 31)) - 1))) F)) ∧ (¬ ((I 6) >>> (((I 5) - p1) &&& 31)) = p2 → (Post 0 I F))))
set_option maxHeartbeats 4000000 in
set_option maxRecDepth 100000 in
theorem c_Sh_take (l : Launch) (D : va_G) (a : Nat → Nat) (cI cZ cQ : ClassId) (hJ : xJ 47 a) (I : SI) (F : SF) (p1 : Int32) (p2 : Int32) (sz : Nat) (Post : Int32 → SI → SF → Prop) (hw : wp_Sh_take p1 p2 I F Post) : Met l y_Sh_take (Cond.code y_Sh_take b_Sh_take 3 (some .boolean) :: TB) { frames := 0, cells := 0, slots := 0, locals := 0 } (va_Pc [.ref (a 10), .int p1, .int p2] (cP D a cI cZ cQ I F sz)) (va_Qi (fun r (u : SI × SF) => Post r u.1 u.2) (fun u t => va_P D vwCl (cw a cI cZ cQ u.1 u.2) t.heap) (xA 47 a sz)) 0 0 (xA 47 a sz) := by
  refine Met.ofW (cc := b_Sh_take) (maxL := 3) (ret := (some .boolean)) (by decide) rfl ?_
  intro p e s m args below meth c s₁ B hml hv
  obtain ⟨rfl, rfl, hP, hK, hN⟩ := hv
  have hx := B.exec
  have hb := B.bytes
  have hr := B.returns
  have hts : ∀ w ∈ TB, w.before _ s = true := fun w h => atoms_spec (ws := Cond.code y_Sh_take b_Sh_take 3 (some .boolean) :: TB) B.pre w (List.mem_cons_of_mem _ h)
  have hown : s.vm.findClass "CodeJudge$Shape" = some m.cls := findClass_of_methodNamed B.named
  have hlocks := B.notSynchronized
  have hl := lv_entry ([.ref (a 10), .int p1, .int p2]) (n := 3) (Nat.le_of_ble_eq_true rfl)
  rw [lg_entry_eq]
  generalize (lg_sl ([.ref (a 10), .int p1, .int p2]) ++ List.replicate (3 - (lg_sl ([.ref (a 10), .int p1, .int p2])).length) Slot.unset).toArray = ls at hl ⊢
  have hl : lv_has ls 3 [(0, .ref (a 10)), (1, .int p1), (2, .int p2)] := hl
  suffices hM : ∀ (H : Heap) (locs : List Loc), va_P D vwCl (cw a cI cZ cQ I F) H → va_S (xA 47 a s.heap.size) s.heap H locs → W p l e (headSpec (Cond.code y_Sh_take b_Sh_take 3 (some .boolean) :: TB) { frames := 0, cells := 0, slots := 0, locals := 0 }).room s m ([.ref (a 10), .int p1, .int p2]).toArray below meth c H locs 0 0 (MQ below (va_Qi (fun r (u : SI × SF) => Post r u.1 u.2) (fun u t => va_P D vwCl (cw a cI cZ cQ u.1 u.2) t.heap) (xA 47 a s.heap.size)) ([.ref (a 10), .int p1, .int p2]).toArray s 0 0 (xA 47 a s.heap.size)) (F0 m 0 ls []) from hM s.heap [] hP va_S.rf
  clear hP
  intro H locs hP hS
  dsimp only [wp_Sh_take] at hw
  refine lv_aload_n hx hb dSh_take_0 rfl (lv_at hl 0 rfl) ?_
  refine va_get (D := D) (v := .int (I 5)) (ci := 6) (C := "CodeJudge$Shape") (T := T_Sh) (N := 4) hx hb hts in_Sh hown hK hP 10 cw_10 rfl 0 (by decide) (hts (.fieldLink "CodeJudge$Shape" 9 "CodeJudge$Shape" "high" "I") tw_1_87) (fun _ h9 => h9) rfl dSh_take_1 ?_
  refine lv_iload_n hx hb dSh_take_4 rfl (lv_at hl 1 rfl) ?_
  refine lv_icmp_lt (tgt := 23) hx hb dSh_take_5 (by decide) (fun h1 => ?_) (fun h1 => ?_)
  · have hw := hw.1 h1
    refine lv_iconst (v := 0) hx hb dSh_take_23 (by decide) ?_
    exact W.zret (v := 0) hx hb hr rfl (fun t ht hW => ⟨⟨0, (I, F), rfl, hw, by subst ht; exact hP⟩, hS.F ht⟩) hS.2.2 dSh_take_24
  · have hw := hw.2 h1
    refine lv_aload_n hx hb dSh_take_8 rfl (lv_at hl 0 rfl) ?_
    refine va_get (D := D) (v := .int (I 6)) (ci := 6) (C := "CodeJudge$Shape") (T := T_Sh) (N := 4) hx hb hts in_Sh hown hK hP 10 cw_10 rfl 1 (by decide) (hts (.fieldLink "CodeJudge$Shape" 15 "CodeJudge$Shape" "stack" "I") tw_1_89) (fun _ h9 => h9) rfl dSh_take_9 ?_
    refine lv_aload_n hx hb dSh_take_12 rfl (lv_at hl 0 rfl) ?_
    refine va_get (D := D) (v := .int (I 5)) (ci := 6) (C := "CodeJudge$Shape") (T := T_Sh) (N := 4) hx hb hts in_Sh hown hK hP 10 cw_10 rfl 0 (by decide) (hts (.fieldLink "CodeJudge$Shape" 9 "CodeJudge$Shape" "high" "I") tw_1_87) (fun _ h9 => h9) rfl dSh_take_13 ?_
    refine lv_iload_n hx hb dSh_take_16 rfl (lv_at hl 1 rfl) ?_
    refine lv_isub hx hb dSh_take_17 ?_
    refine lv_ishr hx hb dSh_take_18 ?_
    refine lv_iload_n hx hb dSh_take_19 rfl (lv_at hl 2 rfl) ?_
    refine lv_icmp_eq (tgt := 25) hx hb dSh_take_20 (by decide) (fun h2 => ?_) (fun h2 => ?_)
    · have hw := hw.1 h2
      refine lv_aload_n hx hb dSh_take_25 rfl (lv_at hl 0 rfl) ?_
      refine lv_dup hx hb dSh_take_26 rfl ?_
      refine va_get (D := D) (v := .int (I 5)) (ci := 6) (C := "CodeJudge$Shape") (T := T_Sh) (N := 4) hx hb hts in_Sh hown hK hP 10 cw_10 rfl 0 (by decide) (hts (.fieldLink "CodeJudge$Shape" 9 "CodeJudge$Shape" "high" "I") tw_1_87) (fun _ h9 => h9) rfl dSh_take_27 ?_
      refine lv_iload_n hx hb dSh_take_30 rfl (lv_at hl 1 rfl) ?_
      refine lv_isub hx hb dSh_take_31 ?_
      refine va_put (D := D) (ci := 6) (v := .int ((I 5) - p1)) (ty := .int) (C := "CodeJudge$Shape") (T := T_Sh) (N := 4) hx hb hts in_Sh ty_Sh ok_Sh nm_Sh hown hK hP (cD hJ) hS 10 cw_10 rfl 0 (by decide) (hts (.fieldLink "CodeJudge$Shape" 9 "CodeJudge$Shape" "high" "I") tw_1_87) (fun _ h9 => h9) rfl (by decide +kernel) rfl rfl (Nat.le_of_ble_eq_true rfl) dSh_take_32 (fun H locs hP _ hS => ?_)
      have hP := cwp_5 hP
      refine lv_aload_n hx hb dSh_take_35 rfl (lv_at hl 0 rfl) ?_
      refine lv_dup hx hb dSh_take_36 rfl ?_
      refine va_get (D := D) (v := .int (I 6)) (ci := 6) (C := "CodeJudge$Shape") (T := T_Sh) (N := 4) hx hb hts in_Sh hown hK hP 10 cw_10 rfl 1 (by decide) (hts (.fieldLink "CodeJudge$Shape" 15 "CodeJudge$Shape" "stack" "I") tw_1_89) (fun _ h9 => h9) rfl dSh_take_37 ?_
      refine lv_iconst (v := 1) hx hb dSh_take_40 (by decide) ?_
      refine lv_aload_n hx hb dSh_take_41 rfl (lv_at hl 0 rfl) ?_
      refine va_get (D := D) (v := .int ((I 5) - p1)) (ci := 6) (C := "CodeJudge$Shape") (T := T_Sh) (N := 4) hx hb hts in_Sh hown hK hP 10 cw_10 rfl 0 (by decide) (hts (.fieldLink "CodeJudge$Shape" 9 "CodeJudge$Shape" "high" "I") tw_1_87) (fun _ h9 => h9) rfl dSh_take_42 ?_
      refine lv_ishl hx hb dSh_take_45 ?_
      refine lv_iconst (v := 1) hx hb dSh_take_46 (by decide) ?_
      refine lv_isub hx hb dSh_take_47 ?_
      refine lv_iand hx hb dSh_take_48 ?_
      refine va_put (D := D) (ci := 6) (v := .int ((I 6) &&& (((1 : Int32) <<< (((I 5) - p1) &&& 31)) - 1))) (ty := .int) (C := "CodeJudge$Shape") (T := T_Sh) (N := 4) hx hb hts in_Sh ty_Sh ok_Sh nm_Sh hown hK hP (cD hJ) hS 10 cw_10 rfl 1 (by decide) (hts (.fieldLink "CodeJudge$Shape" 15 "CodeJudge$Shape" "stack" "I") tw_1_89) (fun _ h9 => h9) rfl (by decide +kernel) rfl rfl (Nat.le_of_ble_eq_true rfl) dSh_take_49 (fun H locs hP _ hS => ?_)
      have hP := cwp_6 hP
      refine lv_iconst (v := 1) hx hb dSh_take_52 (by decide) ?_
      exact W.zret (v := 1) hx hb hr rfl (fun t ht hW => ⟨⟨1, ((va_up (va_up I 5 ((I 5) - p1)) 6 ((I 6) &&& (((1 : Int32) <<< (((I 5) - p1) &&& 31)) - 1))), F), rfl, hw, by subst ht; exact hP⟩, hS.F ht⟩) hS.2.2 dSh_take_53
    · have hw := hw.2 h2
      refine lv_iconst (v := 0) hx hb dSh_take_23 (by decide) ?_
      exact W.zret (v := 0) hx hb hr rfl (fun t ht hW => ⟨⟨0, (I, F), rfl, hw, by subst ht; exact hP⟩, hS.F ht⟩) hS.2.2 dSh_take_24
def wp_Sh_setLocal (p1 : Int32) (p2 : Int32) (I : SI) (F : SF) (Post : Int32 → SI → SF → Prop) : Prop := (¬ p2 = 1 → (Post 1 (va_up (va_up (va_up I 7 ((I 7) &&& (((1 : Int32) <<< (p1 &&& 31)) ^^^ (-1)))) 8 ((I 8) &&& (((1 : Int32) <<< (p1 &&& 31)) ^^^ (-1)))) 8 (((I 8) &&& (((1 : Int32) <<< (p1 &&& 31)) ^^^ (-1))) ||| ((1 : Int32) <<< (p1 &&& 31)))) F)) ∧ (p2 = 1 → (Post 1 (va_up (va_up (va_up I 7 ((I 7) &&& (((1 : Int32) <<< (p1 &&& 31)) ^^^ (-1)))) 8 ((I 8) &&& (((1 : Int32) <<< (p1 &&& 31)) ^^^ (-1)))) 7 (((I 7) &&& (((1 : Int32) <<< (p1 &&& 31)) ^^^ (-1))) ||| ((1 : Int32) <<< (p1 &&& 31)))) F))
set_option maxHeartbeats 4000000 in
set_option maxRecDepth 100000 in
theorem c_Sh_setLocal (l : Launch) (D : va_G) (a : Nat → Nat) (cI cZ cQ : ClassId) (hJ : xJ 47 a) (I : SI) (F : SF) (p1 : Int32) (p2 : Int32) (sz : Nat) (Post : Int32 → SI → SF → Prop) (hw : wp_Sh_setLocal p1 p2 I F Post) : Met l y_Sh_setLocal (Cond.code y_Sh_setLocal b_Sh_setLocal 3 (some .boolean) :: TB) { frames := 0, cells := 0, slots := 0, locals := 0 } (va_Pc [.ref (a 10), .int p1, .int p2] (cP D a cI cZ cQ I F sz)) (va_Qi (fun r (u : SI × SF) => Post r u.1 u.2) (fun u t => va_P D vwCl (cw a cI cZ cQ u.1 u.2) t.heap) (xA 47 a sz)) 0 0 (xA 47 a sz) := by
  refine Met.ofW (cc := b_Sh_setLocal) (maxL := 3) (ret := (some .boolean)) (by decide) rfl ?_
  intro p e s m args below meth c s₁ B hml hv
  obtain ⟨rfl, rfl, hP, hK, hN⟩ := hv
  have hx := B.exec
  have hb := B.bytes
  have hr := B.returns
  have hts : ∀ w ∈ TB, w.before _ s = true := fun w h => atoms_spec (ws := Cond.code y_Sh_setLocal b_Sh_setLocal 3 (some .boolean) :: TB) B.pre w (List.mem_cons_of_mem _ h)
  have hown : s.vm.findClass "CodeJudge$Shape" = some m.cls := findClass_of_methodNamed B.named
  have hlocks := B.notSynchronized
  have hl := lv_entry ([.ref (a 10), .int p1, .int p2]) (n := 3) (Nat.le_of_ble_eq_true rfl)
  rw [lg_entry_eq]
  generalize (lg_sl ([.ref (a 10), .int p1, .int p2]) ++ List.replicate (3 - (lg_sl ([.ref (a 10), .int p1, .int p2])).length) Slot.unset).toArray = ls at hl ⊢
  have hl : lv_has ls 3 [(0, .ref (a 10)), (1, .int p1), (2, .int p2)] := hl
  suffices hM : ∀ (H : Heap) (locs : List Loc), va_P D vwCl (cw a cI cZ cQ I F) H → va_S (xA 47 a s.heap.size) s.heap H locs → W p l e (headSpec (Cond.code y_Sh_setLocal b_Sh_setLocal 3 (some .boolean) :: TB) { frames := 0, cells := 0, slots := 0, locals := 0 }).room s m ([.ref (a 10), .int p1, .int p2]).toArray below meth c H locs 0 0 (MQ below (va_Qi (fun r (u : SI × SF) => Post r u.1 u.2) (fun u t => va_P D vwCl (cw a cI cZ cQ u.1 u.2) t.heap) (xA 47 a s.heap.size)) ([.ref (a 10), .int p1, .int p2]).toArray s 0 0 (xA 47 a s.heap.size)) (F0 m 0 ls []) from hM s.heap [] hP va_S.rf
  clear hP
  intro H locs hP hS
  dsimp only [wp_Sh_setLocal] at hw
  refine lv_aload_n hx hb dSh_setLocal_0 rfl (lv_at hl 0 rfl) ?_
  refine lv_dup hx hb dSh_setLocal_1 rfl ?_
  refine va_get (D := D) (v := .int (I 7)) (ci := 6) (C := "CodeJudge$Shape") (T := T_Sh) (N := 4) hx hb hts in_Sh hown hK hP 10 cw_10 rfl 2 (by decide) (hts (.fieldLink "CodeJudge$Shape" 22 "CodeJudge$Shape" "intLocals" "I") tw_1_92) (fun _ h9 => h9) rfl dSh_setLocal_2 ?_
  refine lv_iconst (v := 1) hx hb dSh_setLocal_5 (by decide) ?_
  refine lv_iload_n hx hb dSh_setLocal_6 rfl (lv_at hl 1 rfl) ?_
  refine lv_ishl hx hb dSh_setLocal_7 ?_
  refine lv_iconst (v := (-1)) hx hb dSh_setLocal_8 (by decide) ?_
  refine lv_ixor hx hb dSh_setLocal_9 ?_
  refine lv_iand hx hb dSh_setLocal_10 ?_
  refine va_put (D := D) (ci := 6) (v := .int ((I 7) &&& (((1 : Int32) <<< (p1 &&& 31)) ^^^ (-1)))) (ty := .int) (C := "CodeJudge$Shape") (T := T_Sh) (N := 4) hx hb hts in_Sh ty_Sh ok_Sh nm_Sh hown hK hP (cD hJ) hS 10 cw_10 rfl 2 (by decide) (hts (.fieldLink "CodeJudge$Shape" 22 "CodeJudge$Shape" "intLocals" "I") tw_1_92) (fun _ h9 => h9) rfl (by decide +kernel) rfl rfl (Nat.le_of_ble_eq_true rfl) dSh_setLocal_11 (fun H locs hP _ hS => ?_)
  have hP := cwp_7 hP
  refine lv_aload_n hx hb dSh_setLocal_14 rfl (lv_at hl 0 rfl) ?_
  refine lv_dup hx hb dSh_setLocal_15 rfl ?_
  refine va_get (D := D) (v := .int (I 8)) (ci := 6) (C := "CodeJudge$Shape") (T := T_Sh) (N := 4) hx hb hts in_Sh hown hK hP 10 cw_10 rfl 3 (by decide) (hts (.fieldLink "CodeJudge$Shape" 25 "CodeJudge$Shape" "arrayLocals" "I") tw_1_94) (fun _ h9 => h9) rfl dSh_setLocal_16 ?_
  refine lv_iconst (v := 1) hx hb dSh_setLocal_19 (by decide) ?_
  refine lv_iload_n hx hb dSh_setLocal_20 rfl (lv_at hl 1 rfl) ?_
  refine lv_ishl hx hb dSh_setLocal_21 ?_
  refine lv_iconst (v := (-1)) hx hb dSh_setLocal_22 (by decide) ?_
  refine lv_ixor hx hb dSh_setLocal_23 ?_
  refine lv_iand hx hb dSh_setLocal_24 ?_
  refine va_put (D := D) (ci := 6) (v := .int ((I 8) &&& (((1 : Int32) <<< (p1 &&& 31)) ^^^ (-1)))) (ty := .int) (C := "CodeJudge$Shape") (T := T_Sh) (N := 4) hx hb hts in_Sh ty_Sh ok_Sh nm_Sh hown hK hP (cD hJ) hS 10 cw_10 rfl 3 (by decide) (hts (.fieldLink "CodeJudge$Shape" 25 "CodeJudge$Shape" "arrayLocals" "I") tw_1_94) (fun _ h9 => h9) rfl (by decide +kernel) rfl rfl (Nat.le_of_ble_eq_true rfl) dSh_setLocal_25 (fun H locs hP _ hS => ?_)
  have hP := cwp_8 hP
  refine lv_iload_n hx hb dSh_setLocal_28 rfl (lv_at hl 2 rfl) ?_
  refine lv_iconst (v := 1) hx hb dSh_setLocal_29 (by decide) ?_
  refine lv_icmp_ne (tgt := 48) hx hb dSh_setLocal_30 (by decide) (fun h1 => ?_) (fun h1 => ?_)
  · have hw := hw.1 h1
    refine lv_aload_n hx hb dSh_setLocal_48 rfl (lv_at hl 0 rfl) ?_
    refine lv_dup hx hb dSh_setLocal_49 rfl ?_
    refine va_get (D := D) (v := .int ((I 8) &&& (((1 : Int32) <<< (p1 &&& 31)) ^^^ (-1)))) (ci := 6) (C := "CodeJudge$Shape") (T := T_Sh) (N := 4) hx hb hts in_Sh hown hK hP 10 cw_10 rfl 3 (by decide) (hts (.fieldLink "CodeJudge$Shape" 25 "CodeJudge$Shape" "arrayLocals" "I") tw_1_94) (fun _ h9 => h9) rfl dSh_setLocal_50 ?_
    refine lv_iconst (v := 1) hx hb dSh_setLocal_53 (by decide) ?_
    refine lv_iload_n hx hb dSh_setLocal_54 rfl (lv_at hl 1 rfl) ?_
    refine lv_ishl hx hb dSh_setLocal_55 ?_
    refine lv_ior hx hb dSh_setLocal_56 ?_
    refine va_put (D := D) (ci := 6) (v := .int (((I 8) &&& (((1 : Int32) <<< (p1 &&& 31)) ^^^ (-1))) ||| ((1 : Int32) <<< (p1 &&& 31)))) (ty := .int) (C := "CodeJudge$Shape") (T := T_Sh) (N := 4) hx hb hts in_Sh ty_Sh ok_Sh nm_Sh hown hK hP (cD hJ) hS 10 cw_10 rfl 3 (by decide) (hts (.fieldLink "CodeJudge$Shape" 25 "CodeJudge$Shape" "arrayLocals" "I") tw_1_94) (fun _ h9 => h9) rfl (by decide +kernel) rfl rfl (Nat.le_of_ble_eq_true rfl) dSh_setLocal_57 (fun H locs hP _ hS => ?_)
    have hP := cwp_8 hP
    refine lv_iconst (v := 1) hx hb dSh_setLocal_60 (by decide) ?_
    exact W.zret (v := 1) hx hb hr rfl (fun t ht hW => ⟨⟨1, ((va_up (va_up (va_up I 7 ((I 7) &&& (((1 : Int32) <<< (p1 &&& 31)) ^^^ (-1)))) 8 ((I 8) &&& (((1 : Int32) <<< (p1 &&& 31)) ^^^ (-1)))) 8 (((I 8) &&& (((1 : Int32) <<< (p1 &&& 31)) ^^^ (-1))) ||| ((1 : Int32) <<< (p1 &&& 31)))), F), rfl, hw, by subst ht; exact hP⟩, hS.F ht⟩) hS.2.2 dSh_setLocal_61
  · have hw := hw.2 h1
    refine lv_aload_n hx hb dSh_setLocal_33 rfl (lv_at hl 0 rfl) ?_
    refine lv_dup hx hb dSh_setLocal_34 rfl ?_
    refine va_get (D := D) (v := .int ((I 7) &&& (((1 : Int32) <<< (p1 &&& 31)) ^^^ (-1)))) (ci := 6) (C := "CodeJudge$Shape") (T := T_Sh) (N := 4) hx hb hts in_Sh hown hK hP 10 cw_10 rfl 2 (by decide) (hts (.fieldLink "CodeJudge$Shape" 22 "CodeJudge$Shape" "intLocals" "I") tw_1_92) (fun _ h9 => h9) rfl dSh_setLocal_35 ?_
    refine lv_iconst (v := 1) hx hb dSh_setLocal_38 (by decide) ?_
    refine lv_iload_n hx hb dSh_setLocal_39 rfl (lv_at hl 1 rfl) ?_
    refine lv_ishl hx hb dSh_setLocal_40 ?_
    refine lv_ior hx hb dSh_setLocal_41 ?_
    refine va_put (D := D) (ci := 6) (v := .int (((I 7) &&& (((1 : Int32) <<< (p1 &&& 31)) ^^^ (-1))) ||| ((1 : Int32) <<< (p1 &&& 31)))) (ty := .int) (C := "CodeJudge$Shape") (T := T_Sh) (N := 4) hx hb hts in_Sh ty_Sh ok_Sh nm_Sh hown hK hP (cD hJ) hS 10 cw_10 rfl 2 (by decide) (hts (.fieldLink "CodeJudge$Shape" 22 "CodeJudge$Shape" "intLocals" "I") tw_1_92) (fun _ h9 => h9) rfl (by decide +kernel) rfl rfl (Nat.le_of_ble_eq_true rfl) dSh_setLocal_42 (fun H locs hP _ hS => ?_)
    have hP := cwp_7 hP
    refine lv_goto (tgt := 60) hx hb dSh_setLocal_45 (by decide) ?_
    refine lv_iconst (v := 1) hx hb dSh_setLocal_60 (by decide) ?_
    exact W.zret (v := 1) hx hb hr rfl (fun t ht hW => ⟨⟨1, ((va_up (va_up (va_up I 7 ((I 7) &&& (((1 : Int32) <<< (p1 &&& 31)) ^^^ (-1)))) 8 ((I 8) &&& (((1 : Int32) <<< (p1 &&& 31)) ^^^ (-1)))) 7 (((I 7) &&& (((1 : Int32) <<< (p1 &&& 31)) ^^^ (-1))) ||| ((1 : Int32) <<< (p1 &&& 31)))), F), rfl, hw, by subst ht; exact hP⟩, hS.F ht⟩) hS.2.2 dSh_setLocal_61
def wp_Sh_upperType (I : SI) (F : SF) (Post : Int32 → SI → SF → Prop) : Prop := ((I 5) ≤ 0 → (Post 1 I F)) ∧ (¬ (I 5) ≤ 0 → ((((I 6) >>> (((I 5) - 1) &&& 31)) = 0 → (Post 1 I F)) ∧ (¬ ((I 6) >>> (((I 5) - 1) &&& 31)) = 0 → (Post 2 I F))))
set_option maxHeartbeats 4000000 in
set_option maxRecDepth 100000 in
theorem c_Sh_upperType (l : Launch) (D : va_G) (a : Nat → Nat) (cI cZ cQ : ClassId) (hJ : xJ 47 a) (I : SI) (F : SF) (sz : Nat) (Post : Int32 → SI → SF → Prop) (hw : wp_Sh_upperType I F Post) : Met l y_Sh_upperType (Cond.code y_Sh_upperType b_Sh_upperType 1 (some .int) :: TB) { frames := 0, cells := 0, slots := 0, locals := 0 } (va_Pc [.ref (a 10)] (cP D a cI cZ cQ I F sz)) (va_Qi (fun r (u : SI × SF) => Post r u.1 u.2) (fun u t => va_P D vwCl (cw a cI cZ cQ u.1 u.2) t.heap) (xA 47 a sz)) 0 0 (xA 47 a sz) := by
  refine Met.ofW (cc := b_Sh_upperType) (maxL := 1) (ret := (some .int)) (by decide) rfl ?_
  intro p e s m args below meth c s₁ B hml hv
  obtain ⟨rfl, rfl, hP, hK, hN⟩ := hv
  have hx := B.exec
  have hb := B.bytes
  have hr := B.returns
  have hts : ∀ w ∈ TB, w.before _ s = true := fun w h => atoms_spec (ws := Cond.code y_Sh_upperType b_Sh_upperType 1 (some .int) :: TB) B.pre w (List.mem_cons_of_mem _ h)
  have hown : s.vm.findClass "CodeJudge$Shape" = some m.cls := findClass_of_methodNamed B.named
  have hlocks := B.notSynchronized
  have hl := lv_entry ([.ref (a 10)]) (n := 1) (Nat.le_of_ble_eq_true rfl)
  rw [lg_entry_eq]
  generalize (lg_sl ([.ref (a 10)]) ++ List.replicate (1 - (lg_sl ([.ref (a 10)])).length) Slot.unset).toArray = ls at hl ⊢
  have hl : lv_has ls 1 [(0, .ref (a 10))] := hl
  suffices hM : ∀ (H : Heap) (locs : List Loc), va_P D vwCl (cw a cI cZ cQ I F) H → va_S (xA 47 a s.heap.size) s.heap H locs → W p l e (headSpec (Cond.code y_Sh_upperType b_Sh_upperType 1 (some .int) :: TB) { frames := 0, cells := 0, slots := 0, locals := 0 }).room s m ([.ref (a 10)]).toArray below meth c H locs 0 0 (MQ below (va_Qi (fun r (u : SI × SF) => Post r u.1 u.2) (fun u t => va_P D vwCl (cw a cI cZ cQ u.1 u.2) t.heap) (xA 47 a s.heap.size)) ([.ref (a 10)]).toArray s 0 0 (xA 47 a s.heap.size)) (F0 m 0 ls []) from hM s.heap [] hP va_S.rf
  clear hP
  intro H locs hP hS
  dsimp only [wp_Sh_upperType] at hw
  refine lv_aload_n hx hb dSh_upperType_0 rfl (lv_at hl 0 rfl) ?_
  refine va_get (D := D) (v := .int (I 5)) (ci := 6) (C := "CodeJudge$Shape") (T := T_Sh) (N := 4) hx hb hts in_Sh hown hK hP 10 cw_10 rfl 0 (by decide) (hts (.fieldLink "CodeJudge$Shape" 9 "CodeJudge$Shape" "high" "I") tw_1_87) (fun _ h9 => h9) rfl dSh_upperType_1 ?_
  refine lv_if_le (tgt := 25) hx hb dSh_upperType_4 (by decide) (fun h1 => ?_) (fun h1 => ?_)
  · have hw := hw.1 h1
    refine lv_iconst (v := 1) hx hb dSh_upperType_25 (by decide) ?_
    exact W.iret (v := 1) hx hb hr (fun t ht hW => ⟨⟨1, (I, F), rfl, hw, by subst ht; exact hP⟩, hS.F ht⟩) hS.2.2 dSh_upperType_26
  · have hw := hw.2 h1
    refine lv_aload_n hx hb dSh_upperType_7 rfl (lv_at hl 0 rfl) ?_
    refine va_get (D := D) (v := .int (I 6)) (ci := 6) (C := "CodeJudge$Shape") (T := T_Sh) (N := 4) hx hb hts in_Sh hown hK hP 10 cw_10 rfl 1 (by decide) (hts (.fieldLink "CodeJudge$Shape" 15 "CodeJudge$Shape" "stack" "I") tw_1_89) (fun _ h9 => h9) rfl dSh_upperType_8 ?_
    refine lv_aload_n hx hb dSh_upperType_11 rfl (lv_at hl 0 rfl) ?_
    refine va_get (D := D) (v := .int (I 5)) (ci := 6) (C := "CodeJudge$Shape") (T := T_Sh) (N := 4) hx hb hts in_Sh hown hK hP 10 cw_10 rfl 0 (by decide) (hts (.fieldLink "CodeJudge$Shape" 9 "CodeJudge$Shape" "high" "I") tw_1_87) (fun _ h9 => h9) rfl dSh_upperType_12 ?_
    refine lv_iconst (v := 1) hx hb dSh_upperType_15 (by decide) ?_
    refine lv_isub hx hb dSh_upperType_16 ?_
    refine lv_ishr hx hb dSh_upperType_17 ?_
    refine lv_if_eq (tgt := 25) hx hb dSh_upperType_18 (by decide) (fun h2 => ?_) (fun h2 => ?_)
    · have hw := hw.1 h2
      refine lv_iconst (v := 1) hx hb dSh_upperType_25 (by decide) ?_
      exact W.iret (v := 1) hx hb hr (fun t ht hW => ⟨⟨1, (I, F), rfl, hw, by subst ht; exact hP⟩, hS.F ht⟩) hS.2.2 dSh_upperType_26
    · have hw := hw.2 h2
      refine lv_iconst (v := 2) hx hb dSh_upperType_21 (by decide) ?_
      refine lv_goto (tgt := 26) hx hb dSh_upperType_22 (by decide) ?_
      exact W.iret (v := 2) hx hb hr (fun t ht hW => ⟨⟨2, (I, F), rfl, hw, by subst ht; exact hP⟩, hS.F ht⟩) hS.2.2 dSh_upperType_26
