def wp_MM_isMethod (p1 : Int32) (I : SI) (F : SF) (Post : Int32 → SI → SF → Prop) : Prop := (p1 < 0 → (Post 0 I F)) ∧ (¬ p1 < 0 → ((8 ≤ p1 → (Post 0 I F)) ∧ (¬ 8 ≤ p1 → (vp_in p1 8 ∧ ((((F 1) p1.toNatClampNeg) = 0 → (Post 0 I F)) ∧ (¬ ((F 1) p1.toNatClampNeg) = 0 → (Post 1 I F)))))))
set_option maxHeartbeats 4000000 in
set_option maxRecDepth 100000 in
theorem c_MM_isMethod (l : Launch) (D : va_G) (a : Nat → Nat) (cI cZ : ClassId) (hJ : xJ 26 a) (I : SI) (F : SF) (p1 : Int32) (sz : Nat) (Post : Int32 → SI → SF → Prop) (hw : wp_MM_isMethod p1 I F Post) : Met l y_MM_isMethod (Cond.code y_MM_isMethod b_MM_isMethod 2 (some .boolean) :: TB) { frames := 0, cells := 0, slots := 0, locals := 0 } (va_Pc [.ref (a 0), .int p1] (mP D a cI cZ I F sz)) (va_Qi (fun r (u : SI × SF) => Post r u.1 u.2) (fun u t => va_P D vwCl (mw a cI cZ u.1 u.2) t.heap) (xA 26 a sz)) 0 0 (xA 26 a sz) := by
  refine Met.ofW (cc := b_MM_isMethod) (maxL := 2) (ret := (some .boolean)) (by decide) rfl ?_
  intro p e s m args below meth c s₁ B hml hv
  obtain ⟨rfl, rfl, hP, hK⟩ := hv
  have hx := B.exec
  have hb := B.bytes
  have hr := B.returns
  have hts : ∀ w ∈ TB, w.before _ s = true := fun w h => atoms_spec (ws := Cond.code y_MM_isMethod b_MM_isMethod 2 (some .boolean) :: TB) B.pre w (List.mem_cons_of_mem _ h)
  have hown : s.vm.findClass "CodeJudgeModel" = some m.cls := findClass_of_methodNamed B.named
  have hlocks := B.notSynchronized
  have hl := lv_entry ([.ref (a 0), .int p1]) (n := 2) (Nat.le_of_ble_eq_true rfl)
  rw [lg_entry_eq]
  generalize (lg_sl ([.ref (a 0), .int p1]) ++ List.replicate (2 - (lg_sl ([.ref (a 0), .int p1])).length) Slot.unset).toArray = ls at hl ⊢
  have hl : lv_has ls 2 [(0, .ref (a 0)), (1, .int p1)] := hl
  suffices hM : ∀ (H : Heap) (locs : List Loc), va_P D vwCl (mw a cI cZ I F) H → va_S (xA 26 a s.heap.size) s.heap H locs → W p l e (headSpec (Cond.code y_MM_isMethod b_MM_isMethod 2 (some .boolean) :: TB) { frames := 0, cells := 0, slots := 0, locals := 0 }).room s m ([.ref (a 0), .int p1]).toArray below meth c H locs 0 0 (MQ below (va_Qi (fun r (u : SI × SF) => Post r u.1 u.2) (fun u t => va_P D vwCl (mw a cI cZ u.1 u.2) t.heap) (xA 26 a s.heap.size)) ([.ref (a 0), .int p1]).toArray s 0 0 (xA 26 a s.heap.size)) (F0 m 0 ls []) from hM s.heap [] hP va_S.rf
  clear hP
  intro H locs hP hS
  dsimp only [wp_MM_isMethod] at hw
  refine lv_iload_n hx hb dMM_isMethod_0 rfl (lv_at hl 1 rfl) ?_
  refine lv_if_lt (tgt := 23) hx hb dMM_isMethod_1 (by decide) (fun h1 => ?_) (fun h1 => ?_)
  · have hw := hw.1 h1
    refine lv_iconst (v := 0) hx hb dMM_isMethod_23 (by decide) ?_
    exact W.zret (v := 0) hx hb hr rfl (fun t ht hW => ⟨⟨0, (I, F), rfl, hw, by subst ht; exact hP⟩, hS.F ht⟩) hS.2.2 dMM_isMethod_24
  · have hw := hw.2 h1
    refine lv_iload_n hx hb dMM_isMethod_4 rfl (lv_at hl 1 rfl) ?_
    refine lv_bipush (v := 8) hx hb dMM_isMethod_5 (by decide) ?_
    refine lv_icmp_ge (tgt := 23) hx hb dMM_isMethod_7 (by decide) (fun h2 => ?_) (fun h2 => ?_)
    · have hw := hw.1 h2
      refine lv_iconst (v := 0) hx hb dMM_isMethod_23 (by decide) ?_
      exact W.zret (v := 0) hx hb hr rfl (fun t ht hW => ⟨⟨0, (I, F), rfl, hw, by subst ht; exact hP⟩, hS.F ht⟩) hS.2.2 dMM_isMethod_24
    · have hw := hw.2 h2
      refine lv_aload_n hx hb dMM_isMethod_10 rfl (lv_at hl 0 rfl) ?_
      refine va_get (D := D) (v := .ref (a 1)) (ci := 8) (C := "CodeJudgeModel") (T := T_MM) (N := 37) hx hb hts in_MM hown hK hP 0 mw_0 rfl 1 (by decide) (hts (.fieldLink "CodeJudgeModel" 7 "CodeJudgeModel" "there" "[Z") tw_4_67) (fun _ h9 => h9) rfl dMM_isMethod_11 ?_
      refine lv_iload_n hx hb dMM_isMethod_14 rfl (lv_at hl 1 rfl) ?_
      obtain ⟨h3, hw⟩ := hw
      refine va_zald hx hb hK hP 1 1 mw_1 rfl h3 dMM_isMethod_15 ?_
      refine lv_if_eq (tgt := 23) hx hb dMM_isMethod_16 (by decide) (fun h4 => ?_) (fun h4 => ?_)
      · have hw := hw.1 h4
        refine lv_iconst (v := 0) hx hb dMM_isMethod_23 (by decide) ?_
        exact W.zret (v := 0) hx hb hr rfl (fun t ht hW => ⟨⟨0, (I, F), rfl, hw, by subst ht; exact hP⟩, hS.F ht⟩) hS.2.2 dMM_isMethod_24
      · have hw := hw.2 h4
        refine lv_iconst (v := 1) hx hb dMM_isMethod_19 (by decide) ?_
        refine lv_goto (tgt := 24) hx hb dMM_isMethod_20 (by decide) ?_
        exact W.zret (v := 1) hx hb hr rfl (fun t ht hW => ⟨⟨1, (I, F), rfl, hw, by subst ht; exact hP⟩, hS.F ht⟩) hS.2.2 dMM_isMethod_24
def wp_MM_within (p1 : Int32) (p2 : Int32) (p3 : Int32) (I : SI) (F : SF) (Post : Int32 → SI → SF → Prop) : Prop := (p1 < p2 → (Post 0 I F)) ∧ (¬ p1 < p2 → ((p3 < p1 → (Post 0 I F)) ∧ (¬ p3 < p1 → (Post 1 I F))))
set_option maxHeartbeats 4000000 in
set_option maxRecDepth 100000 in
theorem c_MM_within (l : Launch) (D : va_G) (a : Nat → Nat) (cI cZ : ClassId) (hJ : xJ 26 a) (I : SI) (F : SF) (p1 : Int32) (p2 : Int32) (p3 : Int32) (sz : Nat) (Post : Int32 → SI → SF → Prop) (hw : wp_MM_within p1 p2 p3 I F Post) : Met l y_MM_within (Cond.code y_MM_within b_MM_within 3 (some .boolean) :: TB) { frames := 0, cells := 0, slots := 0, locals := 0 } (va_Pc [.int p1, .int p2, .int p3] (mP D a cI cZ I F sz)) (va_Qi (fun r (u : SI × SF) => Post r u.1 u.2) (fun u t => va_P D vwCl (mw a cI cZ u.1 u.2) t.heap) (xA 26 a sz)) 0 0 (xA 26 a sz) := by
  refine Met.ofW (cc := b_MM_within) (maxL := 3) (ret := (some .boolean)) (by decide) rfl ?_
  intro p e s m args below meth c s₁ B hml hv
  obtain ⟨rfl, rfl, hP, hK⟩ := hv
  have hx := B.exec
  have hb := B.bytes
  have hr := B.returns
  have hts : ∀ w ∈ TB, w.before _ s = true := fun w h => atoms_spec (ws := Cond.code y_MM_within b_MM_within 3 (some .boolean) :: TB) B.pre w (List.mem_cons_of_mem _ h)
  have hown : s.vm.findClass "CodeJudgeModel" = some m.cls := findClass_of_methodNamed B.named
  have hlocks := B.notSynchronized
  have hl := lv_entry ([.int p1, .int p2, .int p3]) (n := 3) (Nat.le_of_ble_eq_true rfl)
  rw [lg_entry_eq]
  generalize (lg_sl ([.int p1, .int p2, .int p3]) ++ List.replicate (3 - (lg_sl ([.int p1, .int p2, .int p3])).length) Slot.unset).toArray = ls at hl ⊢
  have hl : lv_has ls 3 [(0, .int p1), (1, .int p2), (2, .int p3)] := hl
  suffices hM : ∀ (H : Heap) (locs : List Loc), va_P D vwCl (mw a cI cZ I F) H → va_S (xA 26 a s.heap.size) s.heap H locs → W p l e (headSpec (Cond.code y_MM_within b_MM_within 3 (some .boolean) :: TB) { frames := 0, cells := 0, slots := 0, locals := 0 }).room s m ([.int p1, .int p2, .int p3]).toArray below meth c H locs 0 0 (MQ below (va_Qi (fun r (u : SI × SF) => Post r u.1 u.2) (fun u t => va_P D vwCl (mw a cI cZ u.1 u.2) t.heap) (xA 26 a s.heap.size)) ([.int p1, .int p2, .int p3]).toArray s 0 0 (xA 26 a s.heap.size)) (F0 m 0 ls []) from hM s.heap [] hP va_S.rf
  clear hP
  intro H locs hP hS
  dsimp only [wp_MM_within] at hw
  refine lv_iload_n hx hb dMM_within_0 rfl (lv_at hl 0 rfl) ?_
  refine lv_iload_n hx hb dMM_within_1 rfl (lv_at hl 1 rfl) ?_
  refine lv_icmp_lt (tgt := 14) hx hb dMM_within_2 (by decide) (fun h1 => ?_) (fun h1 => ?_)
  · have hw := hw.1 h1
    refine lv_iconst (v := 0) hx hb dMM_within_14 (by decide) ?_
    exact W.zret (v := 0) hx hb hr rfl (fun t ht hW => ⟨⟨0, (I, F), rfl, hw, by subst ht; exact hP⟩, hS.F ht⟩) hS.2.2 dMM_within_15
  · have hw := hw.2 h1
    refine lv_iload_n hx hb dMM_within_5 rfl (lv_at hl 0 rfl) ?_
    refine lv_iload_n hx hb dMM_within_6 rfl (lv_at hl 2 rfl) ?_
    refine lv_icmp_gt (tgt := 14) hx hb dMM_within_7 (by decide) (fun h2 => ?_) (fun h2 => ?_)
    · have hw := hw.1 h2
      refine lv_iconst (v := 0) hx hb dMM_within_14 (by decide) ?_
      exact W.zret (v := 0) hx hb hr rfl (fun t ht hW => ⟨⟨0, (I, F), rfl, hw, by subst ht; exact hP⟩, hS.F ht⟩) hS.2.2 dMM_within_15
    · have hw := hw.2 h2
      refine lv_iconst (v := 1) hx hb dMM_within_10 (by decide) ?_
      refine lv_goto (tgt := 15) hx hb dMM_within_11 (by decide) ?_
      exact W.zret (v := 1) hx hb hr rfl (fun t ht hW => ⟨⟨1, (I, F), rfl, hw, by subst ht; exact hP⟩, hS.F ht⟩) hS.2.2 dMM_within_15
def wp_MM_goes_26 (Post : Int32 → SI → SF → Prop) (s0 : Int32) (I : SI) (F : SF) : Prop := (¬ s0 = 0 → (Post 0 (va_up I 0 s0) F)) ∧ (s0 = 0 → (Post 1 (va_up I 0 s0) F))
def wp_MM_goes (p1 : Int32) (p2 : Int32) (p3 : Int32) (I : SI) (F : SF) (Post : Int32 → SI → SF → Prop) : Prop := (¬ p1 = 0 → ((¬ p2 = 0 → ((¬ p3 = 0 → (wp_MM_goes_26 Post 0 I F)) ∧ (p3 = 0 → (wp_MM_goes_26 Post 3 I F)))) ∧ (p2 = 0 → (wp_MM_goes_26 Post 2 I F)))) ∧ (p1 = 0 → (wp_MM_goes_26 Post 1 I F))
set_option maxHeartbeats 4000000 in
set_option maxRecDepth 100000 in
theorem c_MM_goes (l : Launch) (D : va_G) (a : Nat → Nat) (cI cZ : ClassId) (hJ : xJ 26 a) (I : SI) (F : SF) (p1 : Int32) (p2 : Int32) (p3 : Int32) (sz : Nat) (Post : Int32 → SI → SF → Prop) (hw : wp_MM_goes p1 p2 p3 I F Post) : Met l y_MM_goes (Cond.code y_MM_goes b_MM_goes 4 (some .boolean) :: TB) { frames := 0, cells := 0, slots := 0, locals := 0 } (va_Pc [.ref (a 0), .int p1, .int p2, .int p3] (mP D a cI cZ I F sz)) (va_Qi (fun r (u : SI × SF) => Post r u.1 u.2) (fun u t => va_P D vwCl (mw a cI cZ u.1 u.2) t.heap) (xA 26 a sz)) 0 0 (xA 26 a sz) := by
  refine Met.ofW (cc := b_MM_goes) (maxL := 4) (ret := (some .boolean)) (by decide) rfl ?_
  intro p e s m args below meth c s₁ B hml hv
  obtain ⟨rfl, rfl, hP, hK⟩ := hv
  have hx := B.exec
  have hb := B.bytes
  have hr := B.returns
  have hts : ∀ w ∈ TB, w.before _ s = true := fun w h => atoms_spec (ws := Cond.code y_MM_goes b_MM_goes 4 (some .boolean) :: TB) B.pre w (List.mem_cons_of_mem _ h)
  have hown : s.vm.findClass "CodeJudgeModel" = some m.cls := findClass_of_methodNamed B.named
  have hlocks := B.notSynchronized
  have hl := lv_entry ([.ref (a 0), .int p1, .int p2, .int p3]) (n := 4) (Nat.le_of_ble_eq_true rfl)
  rw [lg_entry_eq]
  generalize (lg_sl ([.ref (a 0), .int p1, .int p2, .int p3]) ++ List.replicate (4 - (lg_sl ([.ref (a 0), .int p1, .int p2, .int p3])).length) Slot.unset).toArray = ls at hl ⊢
  have hl : lv_has ls 4 [(0, .ref (a 0)), (1, .int p1), (2, .int p2), (3, .int p3)] := hl
  obtain ⟨Q, hQ⟩ : ∃ Q, Q = MQ below (va_Qi (fun r (u : SI × SF) => Post r u.1 u.2) (fun u t => va_P D vwCl (mw a cI cZ u.1 u.2) t.heap) (xA 26 a s.heap.size)) ([.ref (a 0), .int p1, .int p2, .int p3]).toArray s 0 0 (xA 26 a s.heap.size) := ⟨_, rfl⟩
  rw [← hQ]
  have J26 : ∀ (s0 : Int32) (I : SI) (F : SF) (H : Heap) (locs : List Loc) (ls : Array Slot), lv_has ls 4 [(0, .ref (a 0))] → va_P D vwCl (mw a cI cZ I F) H → va_S (xA 26 a s.heap.size) s.heap H locs → wp_MM_goes_26 Post s0 I F → W p l e (headSpec (Cond.code y_MM_goes b_MM_goes 4 (some .boolean) :: TB) { frames := 0, cells := 0, slots := 0, locals := 0 }).room s m ([.ref (a 0), .int p1, .int p2, .int p3]).toArray below meth c H locs 0 0 Q (F0 m 26 ls [.int s0, .ref (a 0)]) := by
    intro s0 I F H locs ls hl hP hS hw
    dsimp only [wp_MM_goes_26] at hw
    refine va_put (D := D) (ci := 8) (v := .int s0) (ty := .int) (C := "CodeJudgeModel") (T := T_MM) (N := 37) hx hb hts in_MM ty_MM ok_MM nm_MM hown hK hP (mD hJ) hS 0 mw_0 rfl 0 (by decide) (hts (.fieldLink "CodeJudgeModel" 86 "CodeJudgeModel" "thrown" "I") tw_4_66) (fun _ h9 => h9) rfl (by decide +kernel) rfl rfl (Nat.le_of_ble_eq_true rfl) dMM_goes_26 (fun H locs hP _ hS => ?_)
    have hP := mwp_0 hP
    refine lv_aload_n hx hb dMM_goes_29 rfl (lv_at hl 0 rfl) ?_
    refine va_get (D := D) (v := .int s0) (ci := 8) (C := "CodeJudgeModel") (T := T_MM) (N := 37) hx hb hts in_MM hown hK hP 0 mw_0 rfl 0 (by decide) (hts (.fieldLink "CodeJudgeModel" 86 "CodeJudgeModel" "thrown" "I") tw_4_66) (fun _ h9 => h9) rfl dMM_goes_30 ?_
    refine lv_if_ne (tgt := 40) hx hb dMM_goes_33 (by decide) (fun h4 => ?_) (fun h4 => ?_)
    · have hw := hw.1 h4
      refine lv_iconst (v := 0) hx hb dMM_goes_40 (by decide) ?_
      rw [hQ]
      exact W.zret (v := 0) hx hb hr rfl (fun t ht hW => ⟨⟨0, ((va_up I 0 s0), F), rfl, hw, by subst ht; exact hP⟩, hS.F ht⟩) hS.2.2 dMM_goes_41
    · have hw := hw.2 h4
      refine lv_iconst (v := 1) hx hb dMM_goes_36 (by decide) ?_
      refine lv_goto (tgt := 41) hx hb dMM_goes_37 (by decide) ?_
      rw [hQ]
      exact W.zret (v := 1) hx hb hr rfl (fun t ht hW => ⟨⟨1, ((va_up I 0 s0), F), rfl, hw, by subst ht; exact hP⟩, hS.F ht⟩) hS.2.2 dMM_goes_41
  suffices hM : ∀ (H : Heap) (locs : List Loc), va_P D vwCl (mw a cI cZ I F) H → va_S (xA 26 a s.heap.size) s.heap H locs → W p l e (headSpec (Cond.code y_MM_goes b_MM_goes 4 (some .boolean) :: TB) { frames := 0, cells := 0, slots := 0, locals := 0 }).room s m ([.ref (a 0), .int p1, .int p2, .int p3]).toArray below meth c H locs 0 0 (Q) (F0 m 0 ls []) from hM s.heap [] hP va_S.rf
  clear hP
  intro H locs hP hS
  dsimp only [wp_MM_goes] at hw
  refine lv_aload_n hx hb dMM_goes_0 rfl (lv_at hl 0 rfl) ?_
  refine lv_iload_n hx hb dMM_goes_1 rfl (lv_at hl 1 rfl) ?_
  refine lv_if_ne (tgt := 9) hx hb dMM_goes_2 (by decide) (fun h1 => ?_) (fun h1 => ?_)
  · have hw := hw.1 h1
    refine lv_iload_n hx hb dMM_goes_9 rfl (lv_at hl 2 rfl) ?_
    refine lv_if_ne (tgt := 17) hx hb dMM_goes_10 (by decide) (fun h2 => ?_) (fun h2 => ?_)
    · have hw := hw.1 h2
      refine lv_iload_n hx hb dMM_goes_17 rfl (lv_at hl 3 rfl) ?_
      refine lv_if_ne (tgt := 25) hx hb dMM_goes_18 (by decide) (fun h3 => ?_) (fun h3 => ?_)
      · have hw := hw.1 h3
        refine lv_iconst (v := 0) hx hb dMM_goes_25 (by decide) ?_
        exact J26 0 I F H locs ls (lv_sub hl [0] rfl) hP hS hw
      · have hw := hw.2 h3
        refine lv_iconst (v := 3) hx hb dMM_goes_21 (by decide) ?_
        refine lv_goto (tgt := 26) hx hb dMM_goes_22 (by decide) ?_
        exact J26 3 I F H locs ls (lv_sub hl [0] rfl) hP hS hw
    · have hw := hw.2 h2
      refine lv_iconst (v := 2) hx hb dMM_goes_13 (by decide) ?_
      refine lv_goto (tgt := 26) hx hb dMM_goes_14 (by decide) ?_
      exact J26 2 I F H locs ls (lv_sub hl [0] rfl) hP hS hw
  · have hw := hw.2 h1
    refine lv_iconst (v := 1) hx hb dMM_goes_5 (by decide) ?_
    refine lv_goto (tgt := 26) hx hb dMM_goes_6 (by decide) ?_
    exact J26 1 I F H locs ls (lv_sub hl [0] rfl) hP hS hw
def wp_MM_add_37 (Post : Int32 → SI → SF → Prop) (x1 : Int32) (x2 : Int32) (x3 : Int32) (s0 : Int32) (s1 : Int32) (s2 : Int32) (I : SI) (F : SF) : Prop := ∃ P5 : Int32 → SI → SF → Prop, wp_MM_goes s2 s1 s0 I F P5 ∧ ∀ r5 I5 F5, P5 r5 I5 F5 → ((¬ r5 = 0 → (vp_in x1 8 ∧ (vp_in (((120 : Int32) * x1) + ((F5 7) x1.toNatClampNeg)) 960 ∧ (vp_in x1 8 ∧ (vp_in (((120 : Int32) * x1) + ((F5 7) x1.toNatClampNeg)) 960 ∧ (vp_in x1 8 ∧ (vp_in x1 8 ∧ (vp_in x1 8 ∧ (Post (upd (F5 7) x1.toNatClampNeg (((F5 7) x1.toNatClampNeg) + 1) x1.toNatClampNeg) (va_up I5 4 0) (va_up (va_up (va_up F5 8 (upd (F5 8) (((120 : Int32) * x1) + ((F5 7) x1.toNatClampNeg) : Int32).toNatClampNeg x2)) 9 (upd (F5 9) (((120 : Int32) * x1) + ((F5 7) x1.toNatClampNeg) : Int32).toNatClampNeg x3)) 7 (upd (F5 7) x1.toNatClampNeg (((F5 7) x1.toNatClampNeg) + 1)))))))))))) ∧ (r5 = 0 → (Post 0 I5 F5)))
def wp_MM_add_36 (Post : Int32 → SI → SF → Prop) (x1 : Int32) (x2 : Int32) (x3 : Int32) (s0 : Int32) (s1 : Int32) (I : SI) (F : SF) : Prop := wp_MM_add_37 Post x1 x2 x3 0 s0 s1 I F
def wp_MM_add (p1 : Int32) (p2 : Int32) (p3 : Int32) (I : SI) (F : SF) (Post : Int32 → SI → SF → Prop) : Prop := ∃ P1 : Int32 → SI → SF → Prop, wp_MM_isMethod p1 I F P1 ∧ ∀ r1 I1 F1, P1 r1 I1 F1 → (∃ P2 : Int32 → SI → SF → Prop, wp_MM_within p2 0 25 I1 F1 P2 ∧ ∀ r2 I2 F2, P2 r2 I2 F2 → (∃ P3 : Int32 → SI → SF → Prop, wp_MM_isMethod p1 I2 F2 P3 ∧ ∀ r3 I3 F3, P3 r3 I3 F3 → ((r3 = 0 → (wp_MM_add_36 Post p1 p2 p3 r2 r1 I3 F3)) ∧ (¬ r3 = 0 → (vp_in p1 8 ∧ ((120 ≤ ((F3 7) p1.toNatClampNeg) → (wp_MM_add_36 Post p1 p2 p3 r2 r1 I3 F3)) ∧ (¬ 120 ≤ ((F3 7) p1.toNatClampNeg) → (wp_MM_add_37 Post p1 p2 p3 1 r2 r1 I3 F3))))))))
set_option maxHeartbeats 4000000 in
set_option maxRecDepth 100000 in
theorem c_MM_add (l : Launch) (D : va_G) (a : Nat → Nat) (cI cZ : ClassId) (hJ : xJ 26 a) (I : SI) (F : SF) (p1 : Int32) (p2 : Int32) (p3 : Int32) (sz : Nat) (Post : Int32 → SI → SF → Prop) (hw : wp_MM_add p1 p2 p3 I F Post) : Met l y_MM_add (Cond.code y_MM_add b_MM_add 4 (some .int) :: TB) { frames := 1, cells := 0, slots := 0, locals := 23 } (va_Pc [.ref (a 0), .int p1, .int p2, .int p3] (mP D a cI cZ I F sz)) (va_Qi (fun r (u : SI × SF) => Post r u.1 u.2) (fun u t => va_P D vwCl (mw a cI cZ u.1 u.2) t.heap) (xA 26 a sz)) 0 0 (xA 26 a sz) := by
  refine Met.ofW (cc := b_MM_add) (maxL := 4) (ret := (some .int)) (by decide) rfl ?_
  intro p e s m args below meth c s₁ B hml hv
  obtain ⟨rfl, rfl, hP, hK⟩ := hv
  have hx := B.exec
  have hb := B.bytes
  have hr := B.returns
  have hts : ∀ w ∈ TB, w.before _ s = true := fun w h => atoms_spec (ws := Cond.code y_MM_add b_MM_add 4 (some .int) :: TB) B.pre w (List.mem_cons_of_mem _ h)
  have hown : s.vm.findClass "CodeJudgeModel" = some m.cls := findClass_of_methodNamed B.named
  have hlocks := B.notSynchronized
  have hl := lv_entry ([.ref (a 0), .int p1, .int p2, .int p3]) (n := 4) (Nat.le_of_ble_eq_true rfl)
  rw [lg_entry_eq]
  generalize (lg_sl ([.ref (a 0), .int p1, .int p2, .int p3]) ++ List.replicate (4 - (lg_sl ([.ref (a 0), .int p1, .int p2, .int p3])).length) Slot.unset).toArray = ls at hl ⊢
  have hl : lv_has ls 4 [(0, .ref (a 0)), (1, .int p1), (2, .int p2), (3, .int p3)] := hl
  obtain ⟨Q, hQ⟩ : ∃ Q, Q = MQ below (va_Qi (fun r (u : SI × SF) => Post r u.1 u.2) (fun u t => va_P D vwCl (mw a cI cZ u.1 u.2) t.heap) (xA 26 a s.heap.size)) ([.ref (a 0), .int p1, .int p2, .int p3]).toArray s 0 0 (xA 26 a s.heap.size) := ⟨_, rfl⟩
  rw [← hQ]
  have J37 : ∀ (x1 : Int32) (x2 : Int32) (x3 : Int32) (s0 : Int32) (s1 : Int32) (s2 : Int32) (I : SI) (F : SF) (H : Heap) (locs : List Loc) (ls : Array Slot), lv_has ls 4 [(0, .ref (a 0)), (1, .int x1), (2, .int x2), (3, .int x3)] → va_P D vwCl (mw a cI cZ I F) H → va_S (xA 26 a s.heap.size) s.heap H locs → wp_MM_add_37 Post x1 x2 x3 s0 s1 s2 I F → W p l e (headSpec (Cond.code y_MM_add b_MM_add 4 (some .int) :: TB) { frames := 1, cells := 0, slots := 0, locals := 23 }).room s m ([.ref (a 0), .int p1, .int p2, .int p3]).toArray below meth c H locs 0 0 Q (F0 m 37 ls [.int s0, .int s1, .int s2, .ref (a 0)]) := by
    intro x1 x2 x3 s0 s1 s2 I F H locs ls hl hP hS hw
    dsimp only [wp_MM_add_37] at hw
    obtain ⟨P5, hc5, hw⟩ := hw
    refine mc_i (va_runV (As := [.int s2, .int s1, .int s0]) (rest := []) ⟨hx, hb, hml, hown, hts⟩ (c_MM_goes l D a cI cZ hJ I F s2 s1 s0 H.size P5 hc5) (cwV 3 hts (tb_V (C := "CodeJudgeModel") wc_MM_goes tw_4_188 tw_4_190 tw_0_21 tw_1_9) rfl rfl rfl (by decide +kernel) ⟨Nat.le_of_ble_eq_true rfl, Nat.le_of_ble_eq_true rfl⟩) ⟨mP_bl, va_recv hK hP rfl mw_0, mP_at hP hK⟩ rfl rfl hl.1 rfl (lv_room (Nat.le_of_ble_eq_true rfl)) dMM_add_37 ⟨Nat.le_of_ble_eq_true rfl, Nat.le_of_ble_eq_true rfl⟩) hS (fun r5 I5 F5 H locs hP hp5 hS => ?_)
    have hw := hw r5 I5 F5 hp5
    refine lv_if_ne (tgt := 45) hx hb dMM_add_40 (by decide) (fun h6 => ?_) (fun h6 => ?_)
    · have hw := hw.1 h6
      refine lv_aload_n hx hb dMM_add_45 rfl (lv_at hl 0 rfl) ?_
      refine va_get (D := D) (v := .ref (a 8)) (ci := 8) (C := "CodeJudgeModel") (T := T_MM) (N := 37) hx hb hts in_MM hown hK hP 0 mw_0 rfl 8 (by decide) (hts (.fieldLink "CodeJudgeModel" 32 "CodeJudgeModel" "orders" "[I") tw_4_74) (fun _ h9 => h9) rfl dMM_add_46 ?_
      refine lv_bipush (v := 120) hx hb dMM_add_49 (by decide) ?_
      refine lv_iload_n hx hb dMM_add_51 rfl (lv_at hl 1 rfl) ?_
      refine lv_imul hx hb dMM_add_52 ?_
      refine lv_aload_n hx hb dMM_add_53 rfl (lv_at hl 0 rfl) ?_
      refine va_get (D := D) (v := .ref (a 7)) (ci := 8) (C := "CodeJudgeModel") (T := T_MM) (N := 37) hx hb hts in_MM hown hK hP 0 mw_0 rfl 7 (by decide) (hts (.fieldLink "CodeJudgeModel" 29 "CodeJudgeModel" "sizes" "[I") tw_4_73) (fun _ h9 => h9) rfl dMM_add_54 ?_
      refine lv_iload_n hx hb dMM_add_57 rfl (lv_at hl 1 rfl) ?_
      obtain ⟨h7, hw⟩ := hw
      refine va_iald hx hb hK hP 7 0 mw_7 rfl h7 dMM_add_58 ?_
      refine lv_iadd hx hb dMM_add_59 ?_
      refine lv_iload_n hx hb dMM_add_60 rfl (lv_at hl 2 rfl) ?_
      obtain ⟨h8, hw⟩ := hw
      refine va_iast hx hb hK hP (mD hJ) hS 8 0 mw_8 rfl h8 dMM_add_61 (fun H locs hP _ hS => ?_)
      have hP := mwa_8 hP
      refine lv_aload_n hx hb dMM_add_62 rfl (lv_at hl 0 rfl) ?_
      refine va_get (D := D) (v := .ref (a 9)) (ci := 8) (C := "CodeJudgeModel") (T := T_MM) (N := 37) hx hb hts in_MM hown hK hP 0 mw_0 rfl 9 (by decide) (hts (.fieldLink "CodeJudgeModel" 35 "CodeJudgeModel" "numbers" "[I") tw_4_75) (fun _ h9 => h9) rfl dMM_add_63 ?_
      refine lv_bipush (v := 120) hx hb dMM_add_66 (by decide) ?_
      refine lv_iload_n hx hb dMM_add_68 rfl (lv_at hl 1 rfl) ?_
      refine lv_imul hx hb dMM_add_69 ?_
      refine lv_aload_n hx hb dMM_add_70 rfl (lv_at hl 0 rfl) ?_
      refine va_get (D := D) (v := .ref (a 7)) (ci := 8) (C := "CodeJudgeModel") (T := T_MM) (N := 37) hx hb hts in_MM hown hK hP 0 mw_0 rfl 7 (by decide) (hts (.fieldLink "CodeJudgeModel" 29 "CodeJudgeModel" "sizes" "[I") tw_4_73) (fun _ h9 => h9) rfl dMM_add_71 ?_
      refine lv_iload_n hx hb dMM_add_74 rfl (lv_at hl 1 rfl) ?_
      obtain ⟨h9, hw⟩ := hw
      refine va_iald hx hb hK hP 7 0 mw_7 rfl h9 dMM_add_75 ?_
      refine lv_iadd hx hb dMM_add_76 ?_
      refine lv_iload_n hx hb dMM_add_77 rfl (lv_at hl 3 rfl) ?_
      obtain ⟨h10, hw⟩ := hw
      refine va_iast hx hb hK hP (mD hJ) hS 9 0 mw_9 rfl h10 dMM_add_78 (fun H locs hP _ hS => ?_)
      have hP := mwa_9 hP
      refine lv_aload_n hx hb dMM_add_79 rfl (lv_at hl 0 rfl) ?_
      refine va_get (D := D) (v := .ref (a 7)) (ci := 8) (C := "CodeJudgeModel") (T := T_MM) (N := 37) hx hb hts in_MM hown hK hP 0 mw_0 rfl 7 (by decide) (hts (.fieldLink "CodeJudgeModel" 29 "CodeJudgeModel" "sizes" "[I") tw_4_73) (fun _ h9 => h9) rfl dMM_add_80 ?_
      refine lv_iload_n hx hb dMM_add_83 rfl (lv_at hl 1 rfl) ?_
      refine lv_dup2_11 hx hb dMM_add_84 rfl rfl ?_
      obtain ⟨h11, hw⟩ := hw
      refine va_iald hx hb hK hP 7 0 mw_7 rfl h11 dMM_add_85 ?_
      refine lv_iconst (v := 1) hx hb dMM_add_86 (by decide) ?_
      refine lv_iadd hx hb dMM_add_87 ?_
      obtain ⟨h12, hw⟩ := hw
      refine va_iast hx hb hK hP (mD hJ) hS 7 0 mw_7 rfl h12 dMM_add_88 (fun H locs hP _ hS => ?_)
      have hP := mwa_7 hP
      refine lv_aload_n hx hb dMM_add_89 rfl (lv_at hl 0 rfl) ?_
      refine lv_iconst (v := 0) hx hb dMM_add_90 (by decide) ?_
      refine va_put (D := D) (ci := 8) (v := .int 0) (ty := .boolean) (C := "CodeJudgeModel") (T := T_MM) (N := 37) hx hb hts in_MM ty_MM ok_MM nm_MM hown hK hP (mD hJ) hS 0 mw_0 rfl 20 (by decide) (hts (.fieldLink "CodeJudgeModel" 98 "CodeJudgeModel" "isRun" "Z") tw_4_85) (fun _ h9 => h9) rfl (by decide +kernel) rfl rfl (Nat.le_of_ble_eq_true rfl) dMM_add_91 (fun H locs hP _ hS => ?_)
      have hP := mwp_4 hP
      refine lv_aload_n hx hb dMM_add_94 rfl (lv_at hl 0 rfl) ?_
      refine va_get (D := D) (v := .ref (a 7)) (ci := 8) (C := "CodeJudgeModel") (T := T_MM) (N := 37) hx hb hts in_MM hown hK hP 0 mw_0 rfl 7 (by decide) (hts (.fieldLink "CodeJudgeModel" 29 "CodeJudgeModel" "sizes" "[I") tw_4_73) (fun _ h9 => h9) rfl dMM_add_95 ?_
      refine lv_iload_n hx hb dMM_add_98 rfl (lv_at hl 1 rfl) ?_
      obtain ⟨h13, hw⟩ := hw
      refine va_iald hx hb hK hP 7 0 mw_7 rfl h13 dMM_add_99 ?_
      rw [hQ]
      exact W.iret (v := (upd (F5 7) x1.toNatClampNeg (((F5 7) x1.toNatClampNeg) + 1) x1.toNatClampNeg)) hx hb hr (fun t ht hW => ⟨⟨(upd (F5 7) x1.toNatClampNeg (((F5 7) x1.toNatClampNeg) + 1) x1.toNatClampNeg), ((va_up I5 4 0), (va_up (va_up (va_up F5 8 (upd (F5 8) (((120 : Int32) * x1) + ((F5 7) x1.toNatClampNeg) : Int32).toNatClampNeg x2)) 9 (upd (F5 9) (((120 : Int32) * x1) + ((F5 7) x1.toNatClampNeg) : Int32).toNatClampNeg x3)) 7 (upd (F5 7) x1.toNatClampNeg (((F5 7) x1.toNatClampNeg) + 1)))), rfl, hw, by subst ht; exact hP⟩, hS.F ht⟩) hS.2.2 dMM_add_100
    · have hw := hw.2 h6
      refine lv_iconst (v := 0) hx hb dMM_add_43 (by decide) ?_
      rw [hQ]
      exact W.iret (v := 0) hx hb hr (fun t ht hW => ⟨⟨0, (I5, F5), rfl, hw, by subst ht; exact hP⟩, hS.F ht⟩) hS.2.2 dMM_add_44
  have J36 : ∀ (x1 : Int32) (x2 : Int32) (x3 : Int32) (s0 : Int32) (s1 : Int32) (I : SI) (F : SF) (H : Heap) (locs : List Loc) (ls : Array Slot), lv_has ls 4 [(0, .ref (a 0)), (1, .int x1), (2, .int x2), (3, .int x3)] → va_P D vwCl (mw a cI cZ I F) H → va_S (xA 26 a s.heap.size) s.heap H locs → wp_MM_add_36 Post x1 x2 x3 s0 s1 I F → W p l e (headSpec (Cond.code y_MM_add b_MM_add 4 (some .int) :: TB) { frames := 1, cells := 0, slots := 0, locals := 23 }).room s m ([.ref (a 0), .int p1, .int p2, .int p3]).toArray below meth c H locs 0 0 Q (F0 m 36 ls [.int s0, .int s1, .ref (a 0)]) := by
    intro x1 x2 x3 s0 s1 I F H locs ls hl hP hS hw
    dsimp only [wp_MM_add_36] at hw
    refine lv_iconst (v := 0) hx hb dMM_add_36 (by decide) ?_
    exact J37 x1 x2 x3 0 s0 s1 I F H locs ls (lv_sub hl [0, 1, 2, 3] rfl) hP hS hw
  suffices hM : ∀ (H : Heap) (locs : List Loc), va_P D vwCl (mw a cI cZ I F) H → va_S (xA 26 a s.heap.size) s.heap H locs → W p l e (headSpec (Cond.code y_MM_add b_MM_add 4 (some .int) :: TB) { frames := 1, cells := 0, slots := 0, locals := 23 }).room s m ([.ref (a 0), .int p1, .int p2, .int p3]).toArray below meth c H locs 0 0 (Q) (F0 m 0 ls []) from hM s.heap [] hP va_S.rf
  clear hP
  intro H locs hP hS
  dsimp only [wp_MM_add] at hw
  refine lv_aload_n hx hb dMM_add_0 rfl (lv_at hl 0 rfl) ?_
  refine lv_aload_n hx hb dMM_add_1 rfl (lv_at hl 0 rfl) ?_
  refine lv_iload_n hx hb dMM_add_2 rfl (lv_at hl 1 rfl) ?_
  obtain ⟨P1, hc1, hw⟩ := hw
  refine mc_i (va_runV (As := [.int p1]) (rest := [.ref (a 0)]) ⟨hx, hb, hml, hown, hts⟩ (c_MM_isMethod l D a cI cZ hJ I F p1 H.size P1 hc1) (cwV 1 hts (tb_V (C := "CodeJudgeModel") wc_MM_isMethod tw_4_196 tw_4_198 tw_0_22 tw_1_9) rfl rfl rfl (by decide +kernel) ⟨Nat.le_of_ble_eq_true rfl, Nat.le_of_ble_eq_true rfl⟩) ⟨mP_bl, va_recv hK hP rfl mw_0, mP_at hP hK⟩ rfl rfl hl.1 rfl (lv_room (Nat.le_of_ble_eq_true rfl)) dMM_add_3 ⟨Nat.le_of_ble_eq_true rfl, Nat.le_of_ble_eq_true rfl⟩) hS (fun r1 I1 F1 H locs hP hp1 hS => ?_)
  have hw := hw r1 I1 F1 hp1
  refine lv_iload_n hx hb dMM_add_6 rfl (lv_at hl 2 rfl) ?_
  refine lv_iconst (v := 0) hx hb dMM_add_7 (by decide) ?_
  refine lv_bipush (v := 25) hx hb dMM_add_8 (by decide) ?_
  obtain ⟨P2, hc2, hw⟩ := hw
  refine mc_i (va_runS (As := [.int p2, .int 0, .int 25]) (rest := [.int r1, .ref (a 0)]) ⟨hx, hb, hml, hown, hts⟩ (c_MM_within l D a cI cZ hJ I1 F1 p2 0 25 H.size P2 hc2) (va_cwS 3 hts (tb_S wc_MM_within tw_4_185 tw_4_186 tw_1_9) rfl rfl rfl (by decide +kernel) ⟨Nat.le_of_ble_eq_true rfl, Nat.le_of_ble_eq_true rfl⟩) ⟨mP_bl, mP_at hP hK⟩ rfl rfl hl.1 rfl (lv_room (Nat.le_of_ble_eq_true rfl)) dMM_add_10 ⟨Nat.le_of_ble_eq_true rfl, Nat.le_of_ble_eq_true rfl⟩) hS (fun r2 I2 F2 H locs hP hp2 hS => ?_)
  have hw := hw r2 I2 F2 hp2
  refine lv_aload_n hx hb dMM_add_13 rfl (lv_at hl 0 rfl) ?_
  refine lv_iload_n hx hb dMM_add_14 rfl (lv_at hl 1 rfl) ?_
  obtain ⟨P3, hc3, hw⟩ := hw
  refine mc_i (va_runV (As := [.int p1]) (rest := [.int r2, .int r1, .ref (a 0)]) ⟨hx, hb, hml, hown, hts⟩ (c_MM_isMethod l D a cI cZ hJ I2 F2 p1 H.size P3 hc3) (cwV 1 hts (tb_V (C := "CodeJudgeModel") wc_MM_isMethod tw_4_196 tw_4_198 tw_0_22 tw_1_9) rfl rfl rfl (by decide +kernel) ⟨Nat.le_of_ble_eq_true rfl, Nat.le_of_ble_eq_true rfl⟩) ⟨mP_bl, va_recv hK hP rfl mw_0, mP_at hP hK⟩ rfl rfl hl.1 rfl (lv_room (Nat.le_of_ble_eq_true rfl)) dMM_add_15 ⟨Nat.le_of_ble_eq_true rfl, Nat.le_of_ble_eq_true rfl⟩) hS (fun r3 I3 F3 H locs hP hp3 hS => ?_)
  have hw := hw r3 I3 F3 hp3
  refine lv_if_eq (tgt := 36) hx hb dMM_add_18 (by decide) (fun h4 => ?_) (fun h4 => ?_)
  · have hw := hw.1 h4
    exact J36 p1 p2 p3 r2 r1 I3 F3 H locs ls (lv_sub hl [0, 1, 2, 3] rfl) hP hS hw
  · have hw := hw.2 h4
    refine lv_aload_n hx hb dMM_add_21 rfl (lv_at hl 0 rfl) ?_
    refine va_get (D := D) (v := .ref (a 7)) (ci := 8) (C := "CodeJudgeModel") (T := T_MM) (N := 37) hx hb hts in_MM hown hK hP 0 mw_0 rfl 7 (by decide) (hts (.fieldLink "CodeJudgeModel" 29 "CodeJudgeModel" "sizes" "[I") tw_4_73) (fun _ h9 => h9) rfl dMM_add_22 ?_
    refine lv_iload_n hx hb dMM_add_25 rfl (lv_at hl 1 rfl) ?_
    obtain ⟨h14, hw⟩ := hw
    refine va_iald hx hb hK hP 7 0 mw_7 rfl h14 dMM_add_26 ?_
    refine lv_bipush (v := 120) hx hb dMM_add_27 (by decide) ?_
    refine lv_icmp_ge (tgt := 36) hx hb dMM_add_29 (by decide) (fun h15 => ?_) (fun h15 => ?_)
    · have hw := hw.1 h15
      exact J36 p1 p2 p3 r2 r1 I3 F3 H locs ls (lv_sub hl [0, 1, 2, 3] rfl) hP hS hw
    · have hw := hw.2 h15
      refine lv_iconst (v := 1) hx hb dMM_add_32 (by decide) ?_
      refine lv_goto (tgt := 37) hx hb dMM_add_33 (by decide) ?_
      exact J37 p1 p2 p3 1 r2 r1 I3 F3 H locs ls (lv_sub hl [0, 1, 2, 3] rfl) hP hS hw
def wp_MM_come_14 (Post : SI → SF → Prop)  (I : SI) (F : SF) : Prop := Post (va_up I 2 1) F
def wp_MM_come_297 (K195 : Int32 → Int32 → SI → SF → Prop) (Post : SI → SF → Prop) (x2 : Int32) (x3 : Int32) (s0 : Int32) (s1 : Int32) (I : SI) (F : SF) : Prop := vp_in s1 120 ∧ (∀ x18 : Int32, x18 = x3 + 1 → (K195 x2 x18 I (va_up F 13 (upd (F 13) s1.toNatClampNeg (vp_nar .boolean s0)))))
def wp_MM_come_292 (K195 : Int32 → Int32 → SI → SF → Prop) (Post : SI → SF → Prop) (x2 : Int32) (x3 : Int32) (s0 : Int32) (I : SI) (F : SF) : Prop := wp_MM_come_297 K195 Post x2 x3 1 s0 I F
def wp_MM_come_272 (K195 : Int32 → Int32 → SI → SF → Prop) (Post : SI → SF → Prop) (x2 : Int32) (x3 : Int32) (x4 : Int32) (s0 : Int32) (s1 : Int32) (I : SI) (F : SF) : Prop := vp_in s1 1200 ∧ (vp_in x2 120 ∧ ((¬ ((F 13) x2.toNatClampNeg) = 0 → (wp_MM_come_292 K195 Post x2 x3 x2 I (va_up F 12 (upd (F 12) s1.toNatClampNeg s0)))) ∧ (((F 13) x2.toNatClampNeg) = 0 → ((x4 = 0 → (wp_MM_come_297 K195 Post x2 x3 0 x2 I (va_up F 12 (upd (F 12) s1.toNatClampNeg s0)))) ∧ (¬ x4 = 0 → (wp_MM_come_292 K195 Post x2 x3 x2 I (va_up F 12 (upd (F 12) s1.toNatClampNeg s0))))))))
def wp_MM_come_240 (K195 : Int32 → Int32 → SI → SF → Prop) (Post : SI → SF → Prop) (x2 : Int32) (x3 : Int32) (s0 : Int32) (I : SI) (F : SF) : Prop := (s0 = 0 → (vp_in (((10 : Int32) * x2) + x3) 1200 ∧ (wp_MM_come_272 K195 Post x2 x3 s0 ((F 12) (((10 : Int32) * x2) + x3 : Int32).toNatClampNeg) (((10 : Int32) * x2) + x3) I F))) ∧ (¬ s0 = 0 → (wp_MM_come_272 K195 Post x2 x3 s0 0 (((10 : Int32) * x2) + x3) I F))
def wp_MM_come_239 (K195 : Int32 → Int32 → SI → SF → Prop) (Post : SI → SF → Prop) (x2 : Int32) (x3 : Int32) (I : SI) (F : SF) : Prop := wp_MM_come_240 K195 Post x2 x3 0 I F
def wp_MM_come_195 (Post : SI → SF → Prop) : Nat → Int32 → Int32 → SI → SF → Prop
  | 0 => fun _ _ _ _ => False
  | n + 1 => fun x2 x3 I F => (10 ≤ x3 → (Post I F)) ∧ (¬ 10 ≤ x3 → (vp_in (((10 : Int32) * x2) + x3) 1200 ∧ ((((F 12) (((10 : Int32) * x2) + x3 : Int32).toNatClampNeg) = 0 → (wp_MM_come_239 (wp_MM_come_195 Post n) Post x2 x3 I F)) ∧ (¬ ((F 12) (((10 : Int32) * x2) + x3 : Int32).toNatClampNeg) = 0 → (vp_in (((10 : Int32) * x2) + x3) 1200 ∧ (vp_in x3 10 ∧ ((((F 12) (((10 : Int32) * x2) + x3 : Int32).toNatClampNeg) = ((F 15) x3.toNatClampNeg) → (wp_MM_come_239 (wp_MM_come_195 Post n) Post x2 x3 I F)) ∧ (¬ ((F 12) (((10 : Int32) * x2) + x3 : Int32).toNatClampNeg) = ((F 15) x3.toNatClampNeg) → (wp_MM_come_240 (wp_MM_come_195 Post n) Post x2 x3 1 I F)))))))))
def wp_MM_come_193 (Post : SI → SF → Prop) (x2 : Int32) (I : SI) (F : SF) : Prop := ∃ q195, wp_MM_come_195 Post q195 x2 0 I F
def wp_MM_come_184 (K143 : Int32 → Int32 → SI → SF → Prop) (Post : SI → SF → Prop) (x2 : Int32) (x3 : Int32) (s0 : Int32) (I : SI) (F : SF) : Prop := bo s0 ∧ (∀ x28 : Int32, x28 = x3 + 1 → (K143 x2 x28 (va_up I 2 s0) F))
def wp_MM_come_143 (Post : SI → SF → Prop) : Nat → Int32 → Int32 → SI → SF → Prop
  | 0 => fun _ _ _ _ => False
  | n + 1 => fun x2 x3 I F => ((I 3) ≤ x3 → (wp_MM_come_193 Post x2 I F)) ∧ (¬ (I 3) ≤ x3 → ((¬ (I 2) = 0 → (wp_MM_come_193 Post x2 I F)) ∧ ((I 2) = 0 → (vp_in (((16 : Int32) * x2) + x3) 1920 ∧ (vp_in x3 32 ∧ ((((F 11) (((16 : Int32) * x2) + x3 : Int32).toNatClampNeg) = ((F 14) x3.toNatClampNeg) → (wp_MM_come_184 (wp_MM_come_143 Post n) Post x2 x3 0 I F)) ∧ (¬ ((F 11) (((16 : Int32) * x2) + x3 : Int32).toNatClampNeg) = ((F 14) x3.toNatClampNeg) → (wp_MM_come_184 (wp_MM_come_143 Post n) Post x2 x3 1 I F))))))))
def wp_MM_come_138 (Post : SI → SF → Prop) (x2 : Int32) (s0 : Int32) (I : SI) (F : SF) : Prop := bo s0 ∧ (∃ q143, wp_MM_come_143 Post q143 x2 0 (va_up I 2 s0) F)
def wp_MM_come_133 (Post : SI → SF → Prop) (x2 : Int32) (I : SI) (F : SF) : Prop := wp_MM_come_138 Post x2 1 I F
def wp_MM_come_75 (Post : SI → SF → Prop) : Nat → Int32 → Int32 → SI → SF → Prop
  | 0 => fun _ _ _ _ => False
  | n + 1 => fun x2 x3 I F => (10 ≤ x3 → (vp_in x2 120 ∧ (Post I (va_up F 13 (upd (F 13) x2.toNatClampNeg (vp_nar .boolean 1)))))) ∧ (¬ 10 ≤ x3 → (vp_in x3 10 ∧ (vp_in (((10 : Int32) * x2) + x3) 1200 ∧ (∀ x37 : Int32, x37 = x3 + 1 → ((wp_MM_come_75 Post n) x2 x37 I (va_up F 12 (upd (F 12) (((10 : Int32) * x2) + x3 : Int32).toNatClampNeg ((F 15) x3.toNatClampNeg))))))))
def wp_MM_come_42 (Post : SI → SF → Prop) : Nat → Int32 → Int32 → SI → SF → Prop
  | 0 => fun _ _ _ _ => False
  | n + 1 => fun x2 x3 I F => ((I 3) ≤ x3 → (∃ q75, wp_MM_come_75 Post q75 x2 0 I F)) ∧ (¬ (I 3) ≤ x3 → (vp_in x3 32 ∧ (vp_in (((16 : Int32) * x2) + x3) 1920 ∧ (∀ x40 : Int32, x40 = x3 + 1 → ((wp_MM_come_42 Post n) x2 x40 I (va_up F 11 (upd (F 11) (((16 : Int32) * x2) + x3 : Int32).toNatClampNeg ((F 14) x3.toNatClampNeg))))))))
def wp_MM_come (p1 : Int32) (p2 : Int32) (I : SI) (F : SF) (Post : SI → SF → Prop) : Prop := (p2 < 0 → (wp_MM_come_14 Post I F)) ∧ (¬ p2 < 0 → (vp_in p1 8 ∧ ((p2 < ((F 7) p1.toNatClampNeg) → (vp_in p2 120 ∧ ((¬ ((F 10) p2.toNatClampNeg) = (-1) → ((¬ (I 2) = 0 → (wp_MM_come_133 Post p2 I F)) ∧ ((I 2) = 0 → (vp_in p2 120 ∧ ((((F 10) p2.toNatClampNeg) = (I 3) → (wp_MM_come_138 Post p2 0 I F)) ∧ (¬ ((F 10) p2.toNatClampNeg) = (I 3) → (wp_MM_come_133 Post p2 I F))))))) ∧ (((F 10) p2.toNatClampNeg) = (-1) → (vp_in p2 120 ∧ (∃ q42, wp_MM_come_42 Post q42 p2 0 I (va_up F 10 (upd (F 10) p2.toNatClampNeg (I 3))))))))) ∧ (¬ p2 < ((F 7) p1.toNatClampNeg) → (wp_MM_come_14 Post I F)))))
set_option maxHeartbeats 4000000 in
set_option maxRecDepth 100000 in
theorem c_MM_come (l : Launch) (D : va_G) (a : Nat → Nat) (cI cZ : ClassId) (hJ : xJ 26 a) (I : SI) (F : SF) (p1 : Int32) (p2 : Int32) (sz : Nat) (Post : SI → SF → Prop) (hw : wp_MM_come p1 p2 I F Post) : Met l y_MM_come (Cond.code y_MM_come b_MM_come 5 none :: TB) { frames := 0, cells := 0, slots := 0, locals := 0 } (va_Pc [.ref (a 0), .int p1, .int p2] (mP D a cI cZ I F sz)) (va_Qv (fun (u : SI × SF) => Post u.1 u.2) (fun u t => va_P D vwCl (mw a cI cZ u.1 u.2) t.heap) (xA 26 a sz)) 0 0 (xA 26 a sz) := by
  refine Met.ofW (cc := b_MM_come) (maxL := 5) (ret := none) (by decide) rfl ?_
  intro p e s m args below meth c s₁ B hml hv
  obtain ⟨rfl, rfl, hP, hK⟩ := hv
  have hx := B.exec
  have hb := B.bytes
  have hr := B.returns
  have hts : ∀ w ∈ TB, w.before _ s = true := fun w h => atoms_spec (ws := Cond.code y_MM_come b_MM_come 5 none :: TB) B.pre w (List.mem_cons_of_mem _ h)
  have hown : s.vm.findClass "CodeJudgeModel" = some m.cls := findClass_of_methodNamed B.named
  have hlocks := B.notSynchronized
  have hl := lv_entry ([.ref (a 0), .int p1, .int p2]) (n := 5) (Nat.le_of_ble_eq_true rfl)
  rw [lg_entry_eq]
  generalize (lg_sl ([.ref (a 0), .int p1, .int p2]) ++ List.replicate (5 - (lg_sl ([.ref (a 0), .int p1, .int p2])).length) Slot.unset).toArray = ls at hl ⊢
  have hl : lv_has ls 5 [(0, .ref (a 0)), (1, .int p1), (2, .int p2)] := hl
  obtain ⟨Q, hQ⟩ : ∃ Q, Q = MQ below (va_Qv (fun (u : SI × SF) => Post u.1 u.2) (fun u t => va_P D vwCl (mw a cI cZ u.1 u.2) t.heap) (xA 26 a s.heap.size)) ([.ref (a 0), .int p1, .int p2]).toArray s 0 0 (xA 26 a s.heap.size) := ⟨_, rfl⟩
  rw [← hQ]
  have J14 : ∀ (I : SI) (F : SF) (H : Heap) (locs : List Loc) (ls : Array Slot), lv_has ls 5 [(0, .ref (a 0))] → va_P D vwCl (mw a cI cZ I F) H → va_S (xA 26 a s.heap.size) s.heap H locs → wp_MM_come_14 Post I F → W p l e (headSpec (Cond.code y_MM_come b_MM_come 5 none :: TB) { frames := 0, cells := 0, slots := 0, locals := 0 }).room s m ([.ref (a 0), .int p1, .int p2]).toArray below meth c H locs 0 0 Q (F0 m 14 ls []) := by
    intro I F H locs ls hl hP hS hw
    dsimp only [wp_MM_come_14] at hw
    refine lv_aload_n hx hb dMM_come_14 rfl (lv_at hl 0 rfl) ?_
    refine lv_iconst (v := 1) hx hb dMM_come_15 (by decide) ?_
    refine va_put (D := D) (ci := 8) (v := .int 1) (ty := .boolean) (C := "CodeJudgeModel") (T := T_MM) (N := 37) hx hb hts in_MM ty_MM ok_MM nm_MM hown hK hP (mD hJ) hS 0 mw_0 rfl 15 (by decide) (hts (.fieldLink "CodeJudgeModel" 113 "CodeJudgeModel" "fails" "Z") tw_4_80) (fun _ h9 => h9) rfl (by decide +kernel) rfl rfl (Nat.le_of_ble_eq_true rfl) dMM_come_16 (fun H locs hP _ hS => ?_)
    have hP := mwp_2 hP
    rw [hQ]
    exact W.vret hx hb hr (fun t ht hW => ⟨⟨((va_up I 2 1), F), rfl, hw, by subst ht; exact hP⟩, hS.F ht⟩) hS.2.2 dMM_come_19
  have J195 : ∀ n : Nat, ∀ (x2 : Int32) (x3 : Int32) (I : SI) (F : SF) (H : Heap) (locs : List Loc) (ls : Array Slot), lv_has ls 5 [(0, .ref (a 0)), (2, .int x2), (3, .int x3)] → va_P D vwCl (mw a cI cZ I F) H → va_S (xA 26 a s.heap.size) s.heap H locs → wp_MM_come_195 Post n x2 x3 I F → W p l e (headSpec (Cond.code y_MM_come b_MM_come 5 none :: TB) { frames := 0, cells := 0, slots := 0, locals := 0 }).room s m ([.ref (a 0), .int p1, .int p2]).toArray below meth c H locs 0 0 Q (F0 m 195 ls []) := by
    intro n195
    induction n195 with
    | zero =>
      intro x2 x3 I F H locs ls hl hP hS hw
      exact False.elim hw
    | succ n195 ih195 =>
      have J297 : ∀ (x2 : Int32) (x3 : Int32) (s0 : Int32) (s1 : Int32) (I : SI) (F : SF) (H : Heap) (locs : List Loc) (ls : Array Slot), lv_has ls 5 [(0, .ref (a 0)), (2, .int x2), (3, .int x3)] → va_P D vwCl (mw a cI cZ I F) H → va_S (xA 26 a s.heap.size) s.heap H locs → wp_MM_come_297 (wp_MM_come_195 Post n195) Post x2 x3 s0 s1 I F → W p l e (headSpec (Cond.code y_MM_come b_MM_come 5 none :: TB) { frames := 0, cells := 0, slots := 0, locals := 0 }).room s m ([.ref (a 0), .int p1, .int p2]).toArray below meth c H locs 0 0 Q (F0 m 297 ls [.int s0, .int s1, .ref (a 13)]) := by
        intro x2 x3 s0 s1 I F H locs ls hl hP hS hw
        dsimp only [wp_MM_come_297] at hw
        obtain ⟨h17, hw⟩ := hw
        refine va_zast hx hb hK hP (mD hJ) hS 13 1 mw_13 rfl h17 dMM_come_297 (fun H locs hP _ hS => ?_)
        have hP := mwa_13 hP
        obtain ⟨x18, e_x18⟩ : ∃ z : Int32, z = x3 + 1 := ⟨_, rfl⟩
        have hw := hw x18 e_x18
        refine lv_iinc (k := 2) (v := x18) (lv' := [(3, .int x18), (0, .ref (a 0)), (2, .int x2)]) hx hb dMM_come_298 hl rfl (e_x18 ▸ (by first | rfl | decide)) (by decide) rfl (fun ls hl => ?_)
        refine lv_goto (tgt := 195) hx hb dMM_come_301 (by decide) ?_
        exact ih195 x2 x18 I (va_up F 13 (upd (F 13) s1.toNatClampNeg (vp_nar .boolean s0))) H locs ls (lv_sub hl [1, 2, 0] rfl) hP hS hw
      have J292 : ∀ (x2 : Int32) (x3 : Int32) (s0 : Int32) (I : SI) (F : SF) (H : Heap) (locs : List Loc) (ls : Array Slot), lv_has ls 5 [(0, .ref (a 0)), (2, .int x2), (3, .int x3)] → va_P D vwCl (mw a cI cZ I F) H → va_S (xA 26 a s.heap.size) s.heap H locs → wp_MM_come_292 (wp_MM_come_195 Post n195) Post x2 x3 s0 I F → W p l e (headSpec (Cond.code y_MM_come b_MM_come 5 none :: TB) { frames := 0, cells := 0, slots := 0, locals := 0 }).room s m ([.ref (a 0), .int p1, .int p2]).toArray below meth c H locs 0 0 Q (F0 m 292 ls [.int s0, .ref (a 13)]) := by
        intro x2 x3 s0 I F H locs ls hl hP hS hw
        dsimp only [wp_MM_come_292] at hw
        refine lv_iconst (v := 1) hx hb dMM_come_292 (by decide) ?_
        refine lv_goto (tgt := 297) hx hb dMM_come_293 (by decide) ?_
        exact J297 x2 x3 1 s0 I F H locs ls (lv_sub hl [0, 1, 2] rfl) hP hS hw
      have J272 : ∀ (x2 : Int32) (x3 : Int32) (x4 : Int32) (s0 : Int32) (s1 : Int32) (I : SI) (F : SF) (H : Heap) (locs : List Loc) (ls : Array Slot), lv_has ls 5 [(0, .ref (a 0)), (2, .int x2), (3, .int x3), (4, .int x4)] → va_P D vwCl (mw a cI cZ I F) H → va_S (xA 26 a s.heap.size) s.heap H locs → wp_MM_come_272 (wp_MM_come_195 Post n195) Post x2 x3 x4 s0 s1 I F → W p l e (headSpec (Cond.code y_MM_come b_MM_come 5 none :: TB) { frames := 0, cells := 0, slots := 0, locals := 0 }).room s m ([.ref (a 0), .int p1, .int p2]).toArray below meth c H locs 0 0 Q (F0 m 272 ls [.int s0, .int s1, .ref (a 12)]) := by
        intro x2 x3 x4 s0 s1 I F H locs ls hl hP hS hw
        dsimp only [wp_MM_come_272] at hw
        obtain ⟨h14, hw⟩ := hw
        refine va_iast hx hb hK hP (mD hJ) hS 12 0 mw_12 rfl h14 dMM_come_272 (fun H locs hP _ hS => ?_)
        have hP := mwa_12 hP
        refine lv_aload_n hx hb dMM_come_273 rfl (lv_at hl 0 rfl) ?_
        refine va_get (D := D) (v := .ref (a 13)) (ci := 8) (C := "CodeJudgeModel") (T := T_MM) (N := 37) hx hb hts in_MM hown hK hP 0 mw_0 rfl 14 (by decide) (hts (.fieldLink "CodeJudgeModel" 47 "CodeJudgeModel" "fresh" "[Z") tw_4_79) (fun _ h9 => h9) rfl dMM_come_274 ?_
        refine lv_iload_n hx hb dMM_come_277 rfl (lv_at hl 1 rfl) ?_
        refine lv_aload_n hx hb dMM_come_278 rfl (lv_at hl 0 rfl) ?_
        refine va_get (D := D) (v := .ref (a 13)) (ci := 8) (C := "CodeJudgeModel") (T := T_MM) (N := 37) hx hb hts in_MM hown hK hP 0 mw_0 rfl 14 (by decide) (hts (.fieldLink "CodeJudgeModel" 47 "CodeJudgeModel" "fresh" "[Z") tw_4_79) (fun _ h9 => h9) rfl dMM_come_279 ?_
        refine lv_iload_n hx hb dMM_come_282 rfl (lv_at hl 1 rfl) ?_
        obtain ⟨h15, hw⟩ := hw
        refine va_zald hx hb hK hP 13 1 mw_13 rfl h15 dMM_come_283 ?_
        refine lv_if_ne (tgt := 292) hx hb dMM_come_284 (by decide) (fun h16 => ?_) (fun h16 => ?_)
        · have hw := hw.1 h16
          exact J292 x2 x3 x2 I (va_up F 12 (upd (F 12) s1.toNatClampNeg s0)) H locs ls (lv_sub hl [0, 1, 2] rfl) hP hS hw
        · have hw := hw.2 h16
          refine lv_iload hx hb dMM_come_287 (lv_at hl 3 rfl) ?_
          refine lv_if_eq (tgt := 296) hx hb dMM_come_289 (by decide) (fun h19 => ?_) (fun h19 => ?_)
          · have hw := hw.1 h19
            refine lv_iconst (v := 0) hx hb dMM_come_296 (by decide) ?_
            exact J297 x2 x3 0 x2 I (va_up F 12 (upd (F 12) s1.toNatClampNeg s0)) H locs ls (lv_sub hl [0, 1, 2] rfl) hP hS hw
          · have hw := hw.2 h19
            exact J292 x2 x3 x2 I (va_up F 12 (upd (F 12) s1.toNatClampNeg s0)) H locs ls (lv_sub hl [0, 1, 2] rfl) hP hS hw
      have J240 : ∀ (x2 : Int32) (x3 : Int32) (s0 : Int32) (I : SI) (F : SF) (H : Heap) (locs : List Loc) (ls : Array Slot), lv_has ls 5 [(0, .ref (a 0)), (2, .int x2), (3, .int x3)] → va_P D vwCl (mw a cI cZ I F) H → va_S (xA 26 a s.heap.size) s.heap H locs → wp_MM_come_240 (wp_MM_come_195 Post n195) Post x2 x3 s0 I F → W p l e (headSpec (Cond.code y_MM_come b_MM_come 5 none :: TB) { frames := 0, cells := 0, slots := 0, locals := 0 }).room s m ([.ref (a 0), .int p1, .int p2]).toArray below meth c H locs 0 0 Q (F0 m 240 ls [.int s0]) := by
        intro x2 x3 s0 I F H locs ls hl hP hS hw
        dsimp only [wp_MM_come_240] at hw
        refine lv_istore (lv' := [(4, .int s0), (0, .ref (a 0)), (2, .int x2), (3, .int x3)]) hx hb dMM_come_240 hl (by decide) rfl (fun ls hl => ?_)
        refine lv_aload_n hx hb dMM_come_242 rfl (lv_at hl 1 rfl) ?_
        refine va_get (D := D) (v := .ref (a 12)) (ci := 8) (C := "CodeJudgeModel") (T := T_MM) (N := 37) hx hb hts in_MM hown hK hP 0 mw_0 rfl 13 (by decide) (hts (.fieldLink "CodeJudgeModel" 44 "CodeJudgeModel" "types" "[I") tw_4_78) (fun _ h9 => h9) rfl dMM_come_243 ?_
        refine lv_bipush (v := 10) hx hb dMM_come_246 (by decide) ?_
        refine lv_iload_n hx hb dMM_come_248 rfl (lv_at hl 2 rfl) ?_
        refine lv_imul hx hb dMM_come_249 ?_
        refine lv_iload_n hx hb dMM_come_250 rfl (lv_at hl 3 rfl) ?_
        refine lv_iadd hx hb dMM_come_251 ?_
        refine lv_iload hx hb dMM_come_252 (lv_at hl 0 rfl) ?_
        refine lv_if_eq (tgt := 261) hx hb dMM_come_254 (by decide) (fun h12 => ?_) (fun h12 => ?_)
        · have hw := hw.1 h12
          refine lv_aload_n hx hb dMM_come_261 rfl (lv_at hl 1 rfl) ?_
          refine va_get (D := D) (v := .ref (a 12)) (ci := 8) (C := "CodeJudgeModel") (T := T_MM) (N := 37) hx hb hts in_MM hown hK hP 0 mw_0 rfl 13 (by decide) (hts (.fieldLink "CodeJudgeModel" 44 "CodeJudgeModel" "types" "[I") tw_4_78) (fun _ h9 => h9) rfl dMM_come_262 ?_
          refine lv_bipush (v := 10) hx hb dMM_come_265 (by decide) ?_
          refine lv_iload_n hx hb dMM_come_267 rfl (lv_at hl 2 rfl) ?_
          refine lv_imul hx hb dMM_come_268 ?_
          refine lv_iload_n hx hb dMM_come_269 rfl (lv_at hl 3 rfl) ?_
          refine lv_iadd hx hb dMM_come_270 ?_
          obtain ⟨h13, hw⟩ := hw
          refine va_iald hx hb hK hP 12 0 mw_12 rfl h13 dMM_come_271 ?_
          exact J272 x2 x3 s0 ((F 12) (((10 : Int32) * x2) + x3 : Int32).toNatClampNeg) (((10 : Int32) * x2) + x3) I F H locs ls (lv_sub hl [1, 2, 3, 0] rfl) hP hS hw
        · have hw := hw.2 h12
          refine lv_iconst (v := 0) hx hb dMM_come_257 (by decide) ?_
          refine lv_goto (tgt := 272) hx hb dMM_come_258 (by decide) ?_
          exact J272 x2 x3 s0 0 (((10 : Int32) * x2) + x3) I F H locs ls (lv_sub hl [1, 2, 3, 0] rfl) hP hS hw
      have J239 : ∀ (x2 : Int32) (x3 : Int32) (I : SI) (F : SF) (H : Heap) (locs : List Loc) (ls : Array Slot), lv_has ls 5 [(0, .ref (a 0)), (2, .int x2), (3, .int x3)] → va_P D vwCl (mw a cI cZ I F) H → va_S (xA 26 a s.heap.size) s.heap H locs → wp_MM_come_239 (wp_MM_come_195 Post n195) Post x2 x3 I F → W p l e (headSpec (Cond.code y_MM_come b_MM_come 5 none :: TB) { frames := 0, cells := 0, slots := 0, locals := 0 }).room s m ([.ref (a 0), .int p1, .int p2]).toArray below meth c H locs 0 0 Q (F0 m 239 ls []) := by
        intro x2 x3 I F H locs ls hl hP hS hw
        dsimp only [wp_MM_come_239] at hw
        refine lv_iconst (v := 0) hx hb dMM_come_239 (by decide) ?_
        exact J240 x2 x3 0 I F H locs ls (lv_sub hl [0, 1, 2] rfl) hP hS hw
      intro x2 x3 I F H locs ls hl hP hS hw
      dsimp only [wp_MM_come_195] at hw
      refine lv_iload_n hx hb dMM_come_195 rfl (lv_at hl 2 rfl) ?_
      refine lv_bipush (v := 10) hx hb dMM_come_196 (by decide) ?_
      refine lv_icmp_ge (tgt := 304) hx hb dMM_come_198 (by decide) (fun h9 => ?_) (fun h9 => ?_)
      · have hw := hw.1 h9
        rw [hQ]
        exact W.vret hx hb hr (fun t ht hW => ⟨⟨(I, F), rfl, hw, by subst ht; exact hP⟩, hS.F ht⟩) hS.2.2 dMM_come_304
      · have hw := hw.2 h9
        refine lv_aload_n hx hb dMM_come_201 rfl (lv_at hl 0 rfl) ?_
        refine va_get (D := D) (v := .ref (a 12)) (ci := 8) (C := "CodeJudgeModel") (T := T_MM) (N := 37) hx hb hts in_MM hown hK hP 0 mw_0 rfl 13 (by decide) (hts (.fieldLink "CodeJudgeModel" 44 "CodeJudgeModel" "types" "[I") tw_4_78) (fun _ h9 => h9) rfl dMM_come_202 ?_
        refine lv_bipush (v := 10) hx hb dMM_come_205 (by decide) ?_
        refine lv_iload_n hx hb dMM_come_207 rfl (lv_at hl 1 rfl) ?_
        refine lv_imul hx hb dMM_come_208 ?_
        refine lv_iload_n hx hb dMM_come_209 rfl (lv_at hl 2 rfl) ?_
        refine lv_iadd hx hb dMM_come_210 ?_
        obtain ⟨h10, hw⟩ := hw
        refine va_iald hx hb hK hP 12 0 mw_12 rfl h10 dMM_come_211 ?_
        refine lv_if_eq (tgt := 239) hx hb dMM_come_212 (by decide) (fun h11 => ?_) (fun h11 => ?_)
        · have hw := hw.1 h11
          exact J239 x2 x3 I F H locs ls (lv_sub hl [0, 1, 2] rfl) hP hS hw
        · have hw := hw.2 h11
          refine lv_aload_n hx hb dMM_come_215 rfl (lv_at hl 0 rfl) ?_
          refine va_get (D := D) (v := .ref (a 12)) (ci := 8) (C := "CodeJudgeModel") (T := T_MM) (N := 37) hx hb hts in_MM hown hK hP 0 mw_0 rfl 13 (by decide) (hts (.fieldLink "CodeJudgeModel" 44 "CodeJudgeModel" "types" "[I") tw_4_78) (fun _ h9 => h9) rfl dMM_come_216 ?_
          refine lv_bipush (v := 10) hx hb dMM_come_219 (by decide) ?_
          refine lv_iload_n hx hb dMM_come_221 rfl (lv_at hl 1 rfl) ?_
          refine lv_imul hx hb dMM_come_222 ?_
          refine lv_iload_n hx hb dMM_come_223 rfl (lv_at hl 2 rfl) ?_
          refine lv_iadd hx hb dMM_come_224 ?_
          obtain ⟨h20, hw⟩ := hw
          refine va_iald hx hb hK hP 12 0 mw_12 rfl h20 dMM_come_225 ?_
          refine lv_aload_n hx hb dMM_come_226 rfl (lv_at hl 0 rfl) ?_
          refine va_get (D := D) (v := .ref (a 15)) (ci := 8) (C := "CodeJudgeModel") (T := T_MM) (N := 37) hx hb hts in_MM hown hK hP 0 mw_0 rfl 18 (by decide) (hts (.fieldLink "CodeJudgeModel" 53 "CodeJudgeModel" "holds" "[I") tw_4_83) (fun _ h9 => h9) rfl dMM_come_227 ?_
          refine lv_iload_n hx hb dMM_come_230 rfl (lv_at hl 2 rfl) ?_
          obtain ⟨h21, hw⟩ := hw
          refine va_iald hx hb hK hP 15 0 mw_15 rfl h21 dMM_come_231 ?_
          refine lv_icmp_eq (tgt := 239) hx hb dMM_come_232 (by decide) (fun h22 => ?_) (fun h22 => ?_)
          · have hw := hw.1 h22
            exact J239 x2 x3 I F H locs ls (lv_sub hl [0, 1, 2] rfl) hP hS hw
          · have hw := hw.2 h22
            refine lv_iconst (v := 1) hx hb dMM_come_235 (by decide) ?_
            refine lv_goto (tgt := 240) hx hb dMM_come_236 (by decide) ?_
            exact J240 x2 x3 1 I F H locs ls (lv_sub hl [0, 1, 2] rfl) hP hS hw
  have J193 : ∀ (x2 : Int32) (I : SI) (F : SF) (H : Heap) (locs : List Loc) (ls : Array Slot), lv_has ls 5 [(0, .ref (a 0)), (2, .int x2)] → va_P D vwCl (mw a cI cZ I F) H → va_S (xA 26 a s.heap.size) s.heap H locs → wp_MM_come_193 Post x2 I F → W p l e (headSpec (Cond.code y_MM_come b_MM_come 5 none :: TB) { frames := 0, cells := 0, slots := 0, locals := 0 }).room s m ([.ref (a 0), .int p1, .int p2]).toArray below meth c H locs 0 0 Q (F0 m 193 ls []) := by
    intro x2 I F H locs ls hl hP hS hw
    dsimp only [wp_MM_come_193] at hw
    refine lv_iconst (v := 0) hx hb dMM_come_193 (by decide) ?_
    refine lv_istore_n (lv' := [(3, .int 0), (0, .ref (a 0)), (2, .int x2)]) hx hb dMM_come_194 rfl hl (by decide) rfl (fun ls hl => ?_)
    obtain ⟨n195, hw⟩ := hw
    exact J195 n195 x2 0 I F H locs ls (lv_sub hl [1, 2, 0] rfl) hP hS hw
  have J143 : ∀ n : Nat, ∀ (x2 : Int32) (x3 : Int32) (I : SI) (F : SF) (H : Heap) (locs : List Loc) (ls : Array Slot), lv_has ls 5 [(0, .ref (a 0)), (2, .int x2), (3, .int x3)] → va_P D vwCl (mw a cI cZ I F) H → va_S (xA 26 a s.heap.size) s.heap H locs → wp_MM_come_143 Post n x2 x3 I F → W p l e (headSpec (Cond.code y_MM_come b_MM_come 5 none :: TB) { frames := 0, cells := 0, slots := 0, locals := 0 }).room s m ([.ref (a 0), .int p1, .int p2]).toArray below meth c H locs 0 0 Q (F0 m 143 ls []) := by
    intro n143
    induction n143 with
    | zero =>
      intro x2 x3 I F H locs ls hl hP hS hw
      exact False.elim hw
    | succ n143 ih143 =>
      have J184 : ∀ (x2 : Int32) (x3 : Int32) (s0 : Int32) (I : SI) (F : SF) (H : Heap) (locs : List Loc) (ls : Array Slot), lv_has ls 5 [(0, .ref (a 0)), (2, .int x2), (3, .int x3)] → va_P D vwCl (mw a cI cZ I F) H → va_S (xA 26 a s.heap.size) s.heap H locs → wp_MM_come_184 (wp_MM_come_143 Post n143) Post x2 x3 s0 I F → W p l e (headSpec (Cond.code y_MM_come b_MM_come 5 none :: TB) { frames := 0, cells := 0, slots := 0, locals := 0 }).room s m ([.ref (a 0), .int p1, .int p2]).toArray below meth c H locs 0 0 Q (F0 m 184 ls [.int s0, .ref (a 0)]) := by
        intro x2 x3 s0 I F H locs ls hl hP hS hw
        dsimp only [wp_MM_come_184] at hw
        obtain ⟨h27, hw⟩ := hw
        refine va_put (D := D) (ci := 8) (v := .int s0) (ty := .boolean) (C := "CodeJudgeModel") (T := T_MM) (N := 37) hx hb hts in_MM ty_MM ok_MM nm_MM hown hK hP (mD hJ) hS 0 mw_0 rfl 15 (by decide) (hts (.fieldLink "CodeJudgeModel" 113 "CodeJudgeModel" "fails" "Z") tw_4_80) (fun _ h9 => h9) rfl (by decide +kernel) (bo_n h27) (bo_f h27) (Nat.le_of_ble_eq_true rfl) dMM_come_184 (fun H locs hP _ hS => ?_)
        have hP := mwp_2 hP
        obtain ⟨x28, e_x28⟩ : ∃ z : Int32, z = x3 + 1 := ⟨_, rfl⟩
        have hw := hw x28 e_x28
        refine lv_iinc (k := 2) (v := x28) (lv' := [(3, .int x28), (0, .ref (a 0)), (2, .int x2)]) hx hb dMM_come_187 hl rfl (e_x28 ▸ (by first | rfl | decide)) (by decide) rfl (fun ls hl => ?_)
        refine lv_goto (tgt := 143) hx hb dMM_come_190 (by decide) ?_
        exact ih143 x2 x28 (va_up I 2 s0) F H locs ls (lv_sub hl [1, 2, 0] rfl) hP hS hw
      intro x2 x3 I F H locs ls hl hP hS hw
      dsimp only [wp_MM_come_143] at hw
      refine lv_iload_n hx hb dMM_come_143 rfl (lv_at hl 2 rfl) ?_
      refine lv_aload_n hx hb dMM_come_144 rfl (lv_at hl 0 rfl) ?_
      refine va_get (D := D) (v := .int (I 3)) (ci := 8) (C := "CodeJudgeModel") (T := T_MM) (N := 37) hx hb hts in_MM hown hK hP 0 mw_0 rfl 16 (by decide) (hts (.fieldLink "CodeJudgeModel" 110 "CodeJudgeModel" "high" "I") tw_4_81) (fun _ h9 => h9) rfl dMM_come_145 ?_
      refine lv_icmp_ge (tgt := 193) hx hb dMM_come_148 (by decide) (fun h8 => ?_) (fun h8 => ?_)
      · have hw := hw.1 h8
        exact J193 x2 I F H locs ls (lv_sub hl [0, 1] rfl) hP hS hw
      · have hw := hw.2 h8
        refine lv_aload_n hx hb dMM_come_151 rfl (lv_at hl 0 rfl) ?_
        refine va_get (D := D) (v := .int (I 2)) (ci := 8) (C := "CodeJudgeModel") (T := T_MM) (N := 37) hx hb hts in_MM hown hK hP 0 mw_0 rfl 15 (by decide) (hts (.fieldLink "CodeJudgeModel" 113 "CodeJudgeModel" "fails" "Z") tw_4_80) (fun _ h9 => h9) rfl dMM_come_152 ?_
        refine lv_if_ne (tgt := 193) hx hb dMM_come_155 (by decide) (fun h23 => ?_) (fun h23 => ?_)
        · have hw := hw.1 h23
          exact J193 x2 I F H locs ls (lv_sub hl [0, 1] rfl) hP hS hw
        · have hw := hw.2 h23
          refine lv_aload_n hx hb dMM_come_158 rfl (lv_at hl 0 rfl) ?_
          refine lv_aload_n hx hb dMM_come_159 rfl (lv_at hl 0 rfl) ?_
          refine va_get (D := D) (v := .ref (a 11)) (ci := 8) (C := "CodeJudgeModel") (T := T_MM) (N := 37) hx hb hts in_MM hown hK hP 0 mw_0 rfl 12 (by decide) (hts (.fieldLink "CodeJudgeModel" 41 "CodeJudgeModel" "stacks" "[I") tw_4_77) (fun _ h9 => h9) rfl dMM_come_160 ?_
          refine lv_bipush (v := 16) hx hb dMM_come_163 (by decide) ?_
          refine lv_iload_n hx hb dMM_come_165 rfl (lv_at hl 1 rfl) ?_
          refine lv_imul hx hb dMM_come_166 ?_
          refine lv_iload_n hx hb dMM_come_167 rfl (lv_at hl 2 rfl) ?_
          refine lv_iadd hx hb dMM_come_168 ?_
          obtain ⟨h24, hw⟩ := hw
          refine va_iald hx hb hK hP 11 0 mw_11 rfl h24 dMM_come_169 ?_
          refine lv_aload_n hx hb dMM_come_170 rfl (lv_at hl 0 rfl) ?_
          refine va_get (D := D) (v := .ref (a 14)) (ci := 8) (C := "CodeJudgeModel") (T := T_MM) (N := 37) hx hb hts in_MM hown hK hP 0 mw_0 rfl 17 (by decide) (hts (.fieldLink "CodeJudgeModel" 50 "CodeJudgeModel" "row" "[I") tw_4_82) (fun _ h9 => h9) rfl dMM_come_171 ?_
          refine lv_iload_n hx hb dMM_come_174 rfl (lv_at hl 2 rfl) ?_
          obtain ⟨h25, hw⟩ := hw
          refine va_iald hx hb hK hP 14 0 mw_14 rfl h25 dMM_come_175 ?_
          refine lv_icmp_eq (tgt := 183) hx hb dMM_come_176 (by decide) (fun h26 => ?_) (fun h26 => ?_)
          · have hw := hw.1 h26
            refine lv_iconst (v := 0) hx hb dMM_come_183 (by decide) ?_
            exact J184 x2 x3 0 I F H locs ls (lv_sub hl [0, 1, 2] rfl) hP hS hw
          · have hw := hw.2 h26
            refine lv_iconst (v := 1) hx hb dMM_come_179 (by decide) ?_
            refine lv_goto (tgt := 184) hx hb dMM_come_180 (by decide) ?_
            exact J184 x2 x3 1 I F H locs ls (lv_sub hl [0, 1, 2] rfl) hP hS hw
  have J138 : ∀ (x2 : Int32) (s0 : Int32) (I : SI) (F : SF) (H : Heap) (locs : List Loc) (ls : Array Slot), lv_has ls 5 [(0, .ref (a 0)), (2, .int x2)] → va_P D vwCl (mw a cI cZ I F) H → va_S (xA 26 a s.heap.size) s.heap H locs → wp_MM_come_138 Post x2 s0 I F → W p l e (headSpec (Cond.code y_MM_come b_MM_come 5 none :: TB) { frames := 0, cells := 0, slots := 0, locals := 0 }).room s m ([.ref (a 0), .int p1, .int p2]).toArray below meth c H locs 0 0 Q (F0 m 138 ls [.int s0, .ref (a 0)]) := by
    intro x2 s0 I F H locs ls hl hP hS hw
    dsimp only [wp_MM_come_138] at hw
    obtain ⟨h7, hw⟩ := hw
    refine va_put (D := D) (ci := 8) (v := .int s0) (ty := .boolean) (C := "CodeJudgeModel") (T := T_MM) (N := 37) hx hb hts in_MM ty_MM ok_MM nm_MM hown hK hP (mD hJ) hS 0 mw_0 rfl 15 (by decide) (hts (.fieldLink "CodeJudgeModel" 113 "CodeJudgeModel" "fails" "Z") tw_4_80) (fun _ h9 => h9) rfl (by decide +kernel) (bo_n h7) (bo_f h7) (Nat.le_of_ble_eq_true rfl) dMM_come_138 (fun H locs hP _ hS => ?_)
    have hP := mwp_2 hP
    refine lv_iconst (v := 0) hx hb dMM_come_141 (by decide) ?_
    refine lv_istore_n (lv' := [(3, .int 0), (0, .ref (a 0)), (2, .int x2)]) hx hb dMM_come_142 rfl hl (by decide) rfl (fun ls hl => ?_)
    obtain ⟨n143, hw⟩ := hw
    exact J143 n143 x2 0 (va_up I 2 s0) F H locs ls (lv_sub hl [1, 2, 0] rfl) hP hS hw
  have J133 : ∀ (x2 : Int32) (I : SI) (F : SF) (H : Heap) (locs : List Loc) (ls : Array Slot), lv_has ls 5 [(0, .ref (a 0)), (2, .int x2)] → va_P D vwCl (mw a cI cZ I F) H → va_S (xA 26 a s.heap.size) s.heap H locs → wp_MM_come_133 Post x2 I F → W p l e (headSpec (Cond.code y_MM_come b_MM_come 5 none :: TB) { frames := 0, cells := 0, slots := 0, locals := 0 }).room s m ([.ref (a 0), .int p1, .int p2]).toArray below meth c H locs 0 0 Q (F0 m 133 ls [.ref (a 0)]) := by
    intro x2 I F H locs ls hl hP hS hw
    dsimp only [wp_MM_come_133] at hw
    refine lv_iconst (v := 1) hx hb dMM_come_133 (by decide) ?_
    refine lv_goto (tgt := 138) hx hb dMM_come_134 (by decide) ?_
    exact J138 x2 1 I F H locs ls (lv_sub hl [0, 1] rfl) hP hS hw
  have J75 : ∀ n : Nat, ∀ (x2 : Int32) (x3 : Int32) (I : SI) (F : SF) (H : Heap) (locs : List Loc) (ls : Array Slot), lv_has ls 5 [(0, .ref (a 0)), (2, .int x2), (3, .int x3)] → va_P D vwCl (mw a cI cZ I F) H → va_S (xA 26 a s.heap.size) s.heap H locs → wp_MM_come_75 Post n x2 x3 I F → W p l e (headSpec (Cond.code y_MM_come b_MM_come 5 none :: TB) { frames := 0, cells := 0, slots := 0, locals := 0 }).room s m ([.ref (a 0), .int p1, .int p2]).toArray below meth c H locs 0 0 Q (F0 m 75 ls []) := by
    intro n75
    induction n75 with
    | zero =>
      intro x2 x3 I F H locs ls hl hP hS hw
      exact False.elim hw
    | succ n75 ih75 =>
      intro x2 x3 I F H locs ls hl hP hS hw
      dsimp only [wp_MM_come_75] at hw
      refine lv_iload_n hx hb dMM_come_75 rfl (lv_at hl 2 rfl) ?_
      refine lv_bipush (v := 10) hx hb dMM_come_76 (by decide) ?_
      refine lv_icmp_ge (tgt := 104) hx hb dMM_come_78 (by decide) (fun h33 => ?_) (fun h33 => ?_)
      · have hw := hw.1 h33
        refine lv_aload_n hx hb dMM_come_104 rfl (lv_at hl 0 rfl) ?_
        refine va_get (D := D) (v := .ref (a 13)) (ci := 8) (C := "CodeJudgeModel") (T := T_MM) (N := 37) hx hb hts in_MM hown hK hP 0 mw_0 rfl 14 (by decide) (hts (.fieldLink "CodeJudgeModel" 47 "CodeJudgeModel" "fresh" "[Z") tw_4_79) (fun _ h9 => h9) rfl dMM_come_105 ?_
        refine lv_iload_n hx hb dMM_come_108 rfl (lv_at hl 1 rfl) ?_
        refine lv_iconst (v := 1) hx hb dMM_come_109 (by decide) ?_
        obtain ⟨h34, hw⟩ := hw
        refine va_zast hx hb hK hP (mD hJ) hS 13 1 mw_13 rfl h34 dMM_come_110 (fun H locs hP _ hS => ?_)
        have hP := mwa_13 hP
        rw [hQ]
        exact W.vret hx hb hr (fun t ht hW => ⟨⟨(I, (va_up F 13 (upd (F 13) x2.toNatClampNeg (vp_nar .boolean 1)))), rfl, hw, by subst ht; exact hP⟩, hS.F ht⟩) hS.2.2 dMM_come_111
      · have hw := hw.2 h33
        refine lv_aload_n hx hb dMM_come_81 rfl (lv_at hl 0 rfl) ?_
        refine va_get (D := D) (v := .ref (a 12)) (ci := 8) (C := "CodeJudgeModel") (T := T_MM) (N := 37) hx hb hts in_MM hown hK hP 0 mw_0 rfl 13 (by decide) (hts (.fieldLink "CodeJudgeModel" 44 "CodeJudgeModel" "types" "[I") tw_4_78) (fun _ h9 => h9) rfl dMM_come_82 ?_
        refine lv_bipush (v := 10) hx hb dMM_come_85 (by decide) ?_
        refine lv_iload_n hx hb dMM_come_87 rfl (lv_at hl 1 rfl) ?_
        refine lv_imul hx hb dMM_come_88 ?_
        refine lv_iload_n hx hb dMM_come_89 rfl (lv_at hl 2 rfl) ?_
        refine lv_iadd hx hb dMM_come_90 ?_
        refine lv_aload_n hx hb dMM_come_91 rfl (lv_at hl 0 rfl) ?_
        refine va_get (D := D) (v := .ref (a 15)) (ci := 8) (C := "CodeJudgeModel") (T := T_MM) (N := 37) hx hb hts in_MM hown hK hP 0 mw_0 rfl 18 (by decide) (hts (.fieldLink "CodeJudgeModel" 53 "CodeJudgeModel" "holds" "[I") tw_4_83) (fun _ h9 => h9) rfl dMM_come_92 ?_
        refine lv_iload_n hx hb dMM_come_95 rfl (lv_at hl 2 rfl) ?_
        obtain ⟨h35, hw⟩ := hw
        refine va_iald hx hb hK hP 15 0 mw_15 rfl h35 dMM_come_96 ?_
        obtain ⟨h36, hw⟩ := hw
        refine va_iast hx hb hK hP (mD hJ) hS 12 0 mw_12 rfl h36 dMM_come_97 (fun H locs hP _ hS => ?_)
        have hP := mwa_12 hP
        obtain ⟨x37, e_x37⟩ : ∃ z : Int32, z = x3 + 1 := ⟨_, rfl⟩
        have hw := hw x37 e_x37
        refine lv_iinc (k := 2) (v := x37) (lv' := [(3, .int x37), (0, .ref (a 0)), (2, .int x2)]) hx hb dMM_come_98 hl rfl (e_x37 ▸ (by first | rfl | decide)) (by decide) rfl (fun ls hl => ?_)
        refine lv_goto (tgt := 75) hx hb dMM_come_101 (by decide) ?_
        exact ih75 x2 x37 I (va_up F 12 (upd (F 12) (((10 : Int32) * x2) + x3 : Int32).toNatClampNeg ((F 15) x3.toNatClampNeg))) H locs ls (lv_sub hl [1, 2, 0] rfl) hP hS hw
  have J42 : ∀ n : Nat, ∀ (x2 : Int32) (x3 : Int32) (I : SI) (F : SF) (H : Heap) (locs : List Loc) (ls : Array Slot), lv_has ls 5 [(0, .ref (a 0)), (2, .int x2), (3, .int x3)] → va_P D vwCl (mw a cI cZ I F) H → va_S (xA 26 a s.heap.size) s.heap H locs → wp_MM_come_42 Post n x2 x3 I F → W p l e (headSpec (Cond.code y_MM_come b_MM_come 5 none :: TB) { frames := 0, cells := 0, slots := 0, locals := 0 }).room s m ([.ref (a 0), .int p1, .int p2]).toArray below meth c H locs 0 0 Q (F0 m 42 ls []) := by
    intro n42
    induction n42 with
    | zero =>
      intro x2 x3 I F H locs ls hl hP hS hw
      exact False.elim hw
    | succ n42 ih42 =>
      intro x2 x3 I F H locs ls hl hP hS hw
      dsimp only [wp_MM_come_42] at hw
      refine lv_iload_n hx hb dMM_come_42 rfl (lv_at hl 2 rfl) ?_
      refine lv_aload_n hx hb dMM_come_43 rfl (lv_at hl 0 rfl) ?_
      refine va_get (D := D) (v := .int (I 3)) (ci := 8) (C := "CodeJudgeModel") (T := T_MM) (N := 37) hx hb hts in_MM hown hK hP 0 mw_0 rfl 16 (by decide) (hts (.fieldLink "CodeJudgeModel" 110 "CodeJudgeModel" "high" "I") tw_4_81) (fun _ h9 => h9) rfl dMM_come_44 ?_
      refine lv_icmp_ge (tgt := 73) hx hb dMM_come_47 (by decide) (fun h32 => ?_) (fun h32 => ?_)
      · have hw := hw.1 h32
        refine lv_iconst (v := 0) hx hb dMM_come_73 (by decide) ?_
        refine lv_istore_n (lv' := [(3, .int 0), (0, .ref (a 0)), (2, .int x2)]) hx hb dMM_come_74 rfl hl (by decide) rfl (fun ls hl => ?_)
        obtain ⟨n75, hw⟩ := hw
        exact J75 n75 x2 0 I F H locs ls (lv_sub hl [1, 2, 0] rfl) hP hS hw
      · have hw := hw.2 h32
        refine lv_aload_n hx hb dMM_come_50 rfl (lv_at hl 0 rfl) ?_
        refine va_get (D := D) (v := .ref (a 11)) (ci := 8) (C := "CodeJudgeModel") (T := T_MM) (N := 37) hx hb hts in_MM hown hK hP 0 mw_0 rfl 12 (by decide) (hts (.fieldLink "CodeJudgeModel" 41 "CodeJudgeModel" "stacks" "[I") tw_4_77) (fun _ h9 => h9) rfl dMM_come_51 ?_
        refine lv_bipush (v := 16) hx hb dMM_come_54 (by decide) ?_
        refine lv_iload_n hx hb dMM_come_56 rfl (lv_at hl 1 rfl) ?_
        refine lv_imul hx hb dMM_come_57 ?_
        refine lv_iload_n hx hb dMM_come_58 rfl (lv_at hl 2 rfl) ?_
        refine lv_iadd hx hb dMM_come_59 ?_
        refine lv_aload_n hx hb dMM_come_60 rfl (lv_at hl 0 rfl) ?_
        refine va_get (D := D) (v := .ref (a 14)) (ci := 8) (C := "CodeJudgeModel") (T := T_MM) (N := 37) hx hb hts in_MM hown hK hP 0 mw_0 rfl 17 (by decide) (hts (.fieldLink "CodeJudgeModel" 50 "CodeJudgeModel" "row" "[I") tw_4_82) (fun _ h9 => h9) rfl dMM_come_61 ?_
        refine lv_iload_n hx hb dMM_come_64 rfl (lv_at hl 2 rfl) ?_
        obtain ⟨h38, hw⟩ := hw
        refine va_iald hx hb hK hP 14 0 mw_14 rfl h38 dMM_come_65 ?_
        obtain ⟨h39, hw⟩ := hw
        refine va_iast hx hb hK hP (mD hJ) hS 11 0 mw_11 rfl h39 dMM_come_66 (fun H locs hP _ hS => ?_)
        have hP := mwa_11 hP
        obtain ⟨x40, e_x40⟩ : ∃ z : Int32, z = x3 + 1 := ⟨_, rfl⟩
        have hw := hw x40 e_x40
        refine lv_iinc (k := 2) (v := x40) (lv' := [(3, .int x40), (0, .ref (a 0)), (2, .int x2)]) hx hb dMM_come_67 hl rfl (e_x40 ▸ (by first | rfl | decide)) (by decide) rfl (fun ls hl => ?_)
        refine lv_goto (tgt := 42) hx hb dMM_come_70 (by decide) ?_
        exact ih42 x2 x40 I (va_up F 11 (upd (F 11) (((16 : Int32) * x2) + x3 : Int32).toNatClampNeg ((F 14) x3.toNatClampNeg))) H locs ls (lv_sub hl [1, 2, 0] rfl) hP hS hw
  suffices hM : ∀ (H : Heap) (locs : List Loc), va_P D vwCl (mw a cI cZ I F) H → va_S (xA 26 a s.heap.size) s.heap H locs → W p l e (headSpec (Cond.code y_MM_come b_MM_come 5 none :: TB) { frames := 0, cells := 0, slots := 0, locals := 0 }).room s m ([.ref (a 0), .int p1, .int p2]).toArray below meth c H locs 0 0 (Q) (F0 m 0 ls []) from hM s.heap [] hP va_S.rf
  clear hP
  intro H locs hP hS
  dsimp only [wp_MM_come] at hw
  refine lv_iload_n hx hb dMM_come_0 rfl (lv_at hl 2 rfl) ?_
  refine lv_if_lt (tgt := 14) hx hb dMM_come_1 (by decide) (fun h1 => ?_) (fun h1 => ?_)
  · have hw := hw.1 h1
    exact J14 I F H locs ls (lv_sub hl [0] rfl) hP hS hw
  · have hw := hw.2 h1
    refine lv_iload_n hx hb dMM_come_4 rfl (lv_at hl 2 rfl) ?_
    refine lv_aload_n hx hb dMM_come_5 rfl (lv_at hl 0 rfl) ?_
    refine va_get (D := D) (v := .ref (a 7)) (ci := 8) (C := "CodeJudgeModel") (T := T_MM) (N := 37) hx hb hts in_MM hown hK hP 0 mw_0 rfl 7 (by decide) (hts (.fieldLink "CodeJudgeModel" 29 "CodeJudgeModel" "sizes" "[I") tw_4_73) (fun _ h9 => h9) rfl dMM_come_6 ?_
    refine lv_iload_n hx hb dMM_come_9 rfl (lv_at hl 1 rfl) ?_
    obtain ⟨h2, hw⟩ := hw
    refine va_iald hx hb hK hP 7 0 mw_7 rfl h2 dMM_come_10 ?_
    refine lv_icmp_lt (tgt := 20) hx hb dMM_come_11 (by decide) (fun h3 => ?_) (fun h3 => ?_)
    · have hw := hw.1 h3
      refine lv_aload_n hx hb dMM_come_20 rfl (lv_at hl 0 rfl) ?_
      refine va_get (D := D) (v := .ref (a 10)) (ci := 8) (C := "CodeJudgeModel") (T := T_MM) (N := 37) hx hb hts in_MM hown hK hP 0 mw_0 rfl 11 (by decide) (hts (.fieldLink "CodeJudgeModel" 38 "CodeJudgeModel" "heights" "[I") tw_4_76) (fun _ h9 => h9) rfl dMM_come_21 ?_
      refine lv_iload_n hx hb dMM_come_24 rfl (lv_at hl 2 rfl) ?_
      obtain ⟨h4, hw⟩ := hw
      refine va_iald hx hb hK hP 10 0 mw_10 rfl h4 dMM_come_25 ?_
      refine lv_iconst (v := (-1)) hx hb dMM_come_26 (by decide) ?_
      refine lv_icmp_ne (tgt := 112) hx hb dMM_come_27 (by decide) (fun h5 => ?_) (fun h5 => ?_)
      · have hw := hw.1 h5
        refine lv_aload_n hx hb dMM_come_112 rfl (lv_at hl 0 rfl) ?_
        refine lv_aload_n hx hb dMM_come_113 rfl (lv_at hl 0 rfl) ?_
        refine va_get (D := D) (v := .int (I 2)) (ci := 8) (C := "CodeJudgeModel") (T := T_MM) (N := 37) hx hb hts in_MM hown hK hP 0 mw_0 rfl 15 (by decide) (hts (.fieldLink "CodeJudgeModel" 113 "CodeJudgeModel" "fails" "Z") tw_4_80) (fun _ h9 => h9) rfl dMM_come_114 ?_
        refine lv_if_ne (tgt := 133) hx hb dMM_come_117 (by decide) (fun h6 => ?_) (fun h6 => ?_)
        · have hw := hw.1 h6
          exact J133 p2 I F H locs ls (lv_sub hl [0, 2] rfl) hP hS hw
        · have hw := hw.2 h6
          refine lv_aload_n hx hb dMM_come_120 rfl (lv_at hl 0 rfl) ?_
          refine va_get (D := D) (v := .ref (a 10)) (ci := 8) (C := "CodeJudgeModel") (T := T_MM) (N := 37) hx hb hts in_MM hown hK hP 0 mw_0 rfl 11 (by decide) (hts (.fieldLink "CodeJudgeModel" 38 "CodeJudgeModel" "heights" "[I") tw_4_76) (fun _ h9 => h9) rfl dMM_come_121 ?_
          refine lv_iload_n hx hb dMM_come_124 rfl (lv_at hl 2 rfl) ?_
          obtain ⟨h29, hw⟩ := hw
          refine va_iald hx hb hK hP 10 0 mw_10 rfl h29 dMM_come_125 ?_
          refine lv_aload_n hx hb dMM_come_126 rfl (lv_at hl 0 rfl) ?_
          refine va_get (D := D) (v := .int (I 3)) (ci := 8) (C := "CodeJudgeModel") (T := T_MM) (N := 37) hx hb hts in_MM hown hK hP 0 mw_0 rfl 16 (by decide) (hts (.fieldLink "CodeJudgeModel" 110 "CodeJudgeModel" "high" "I") tw_4_81) (fun _ h9 => h9) rfl dMM_come_127 ?_
          refine lv_icmp_eq (tgt := 137) hx hb dMM_come_130 (by decide) (fun h30 => ?_) (fun h30 => ?_)
          · have hw := hw.1 h30
            refine lv_iconst (v := 0) hx hb dMM_come_137 (by decide) ?_
            exact J138 p2 0 I F H locs ls (lv_sub hl [0, 2] rfl) hP hS hw
          · have hw := hw.2 h30
            exact J133 p2 I F H locs ls (lv_sub hl [0, 2] rfl) hP hS hw
      · have hw := hw.2 h5
        refine lv_aload_n hx hb dMM_come_30 rfl (lv_at hl 0 rfl) ?_
        refine va_get (D := D) (v := .ref (a 10)) (ci := 8) (C := "CodeJudgeModel") (T := T_MM) (N := 37) hx hb hts in_MM hown hK hP 0 mw_0 rfl 11 (by decide) (hts (.fieldLink "CodeJudgeModel" 38 "CodeJudgeModel" "heights" "[I") tw_4_76) (fun _ h9 => h9) rfl dMM_come_31 ?_
        refine lv_iload_n hx hb dMM_come_34 rfl (lv_at hl 2 rfl) ?_
        refine lv_aload_n hx hb dMM_come_35 rfl (lv_at hl 0 rfl) ?_
        refine va_get (D := D) (v := .int (I 3)) (ci := 8) (C := "CodeJudgeModel") (T := T_MM) (N := 37) hx hb hts in_MM hown hK hP 0 mw_0 rfl 16 (by decide) (hts (.fieldLink "CodeJudgeModel" 110 "CodeJudgeModel" "high" "I") tw_4_81) (fun _ h9 => h9) rfl dMM_come_36 ?_
        obtain ⟨h31, hw⟩ := hw
        refine va_iast hx hb hK hP (mD hJ) hS 10 0 mw_10 rfl h31 dMM_come_39 (fun H locs hP _ hS => ?_)
        have hP := mwa_10 hP
        refine lv_iconst (v := 0) hx hb dMM_come_40 (by decide) ?_
        refine lv_istore_n (lv' := [(3, .int 0), (0, .ref (a 0)), (1, .int p1), (2, .int p2)]) hx hb dMM_come_41 rfl hl (by decide) rfl (fun ls hl => ?_)
        obtain ⟨n42, hw⟩ := hw
        exact J42 n42 p2 0 I (va_up F 10 (upd (F 10) p2.toNatClampNeg (I 3))) H locs ls (lv_sub hl [1, 3, 0] rfl) hP hS hw
    · have hw := hw.2 h3
      exact J14 I F H locs ls (lv_sub hl [0] rfl) hP hS hw
