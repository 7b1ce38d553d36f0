def wp_MM_jumps_25 (Post : Int32 → SI → SF → Prop) (x1 : Int32) (x2 : Int32) (I : SI) (F : SF) : Prop := (¬ x1 = 15 → ((¬ x2 = (-1) → (Post 0 I F)) ∧ (x2 = (-1) → (Post 1 I F)))) ∧ (x1 = 15 → ((¬ x2 = 0 → (Post 0 I F)) ∧ (x2 = 0 → (Post 1 I F))))
def wp_MM_jumps (p1 : Int32) (I : SI) (F : SF) (Post : Int32 → SI → SF → Prop) : Prop := (¬ p1 = 14 → (∃ P2 : Int32 → SI → SF → Prop, wp_MM_popValue I F P2 ∧ ∀ r2 I2 F2, P2 r2 I2 F2 → ((p1 = 15 → (wp_MM_jumps_25 Post p1 r2 I2 F2)) ∧ (¬ p1 = 15 → ((¬ p1 = 19 → (∃ P8 : Int32 → SI → SF → Prop, wp_MM_popValue I2 F2 P8 ∧ ∀ r8 I8 F8, P8 r8 I8 F8 → ((¬ p1 = 16 → ((¬ r8 = r2 → (Post 0 I8 F8)) ∧ (r8 = r2 → (Post 1 I8 F8)))) ∧ (p1 = 16 → ((r2 ≤ r8 → (Post 0 I8 F8)) ∧ (¬ r2 ≤ r8 → (Post 1 I8 F8))))))) ∧ (p1 = 19 → (wp_MM_jumps_25 Post p1 r2 I2 F2))))))) ∧ (p1 = 14 → (Post 1 I F))
set_option maxHeartbeats 4000000 in
set_option maxRecDepth 100000 in
theorem c_MM_jumps (l : Launch) (D : va_G) (a : Nat → Nat) (cI cZ : ClassId) (hJ : xJ 26 a) (I : SI) (F : SF) (p1 : Int32) (sz : Nat) (Post : Int32 → SI → SF → Prop) (hw : wp_MM_jumps p1 I F Post) : Met l y_MM_jumps (Cond.code y_MM_jumps b_MM_jumps 4 (some .boolean) :: TB) { frames := 1, cells := 0, slots := 0, locals := 20 } (va_Pc [.ref (a 0), .int p1] (mP D a cI cZ I F sz)) (va_Qi (fun r (u : SI × SF) => Post r u.1 u.2) (fun u t => va_P D vwCl (mw a cI cZ u.1 u.2) t.heap) (xA 26 a sz)) 0 0 (xA 26 a sz) := by
  refine Met.ofW (cc := b_MM_jumps) (maxL := 4) (ret := (some .boolean)) (by decide) rfl ?_
  intro p e s m args below meth c s₁ B hml hv
  obtain ⟨rfl, rfl, hP, hK⟩ := hv
  have hx := B.exec
  have hb := B.bytes
  have hr := B.returns
  have hts : ∀ w ∈ TB, w.before _ s = true := fun w h => atoms_spec (ws := Cond.code y_MM_jumps b_MM_jumps 4 (some .boolean) :: TB) B.pre w (List.mem_cons_of_mem _ h)
  have hown : s.vm.findClass "CodeJudgeModel" = some m.cls := findClass_of_methodNamed B.named
  have hlocks := B.notSynchronized
  have hl := lv_entry ([.ref (a 0), .int p1]) (n := 4) (Nat.le_of_ble_eq_true rfl)
  rw [lg_entry_eq]
  generalize (lg_sl ([.ref (a 0), .int p1]) ++ List.replicate (4 - (lg_sl ([.ref (a 0), .int p1])).length) Slot.unset).toArray = ls at hl ⊢
  have hl : lv_has ls 4 [(0, .ref (a 0)), (1, .int p1)] := hl
  obtain ⟨Q, hQ⟩ : ∃ Q, Q = MQ below (va_Qi (fun r (u : SI × SF) => Post r u.1 u.2) (fun u t => va_P D vwCl (mw a cI cZ u.1 u.2) t.heap) (xA 26 a s.heap.size)) ([.ref (a 0), .int p1]).toArray s 0 0 (xA 26 a s.heap.size) := ⟨_, rfl⟩
  rw [← hQ]
  have J25 : ∀ (x1 : Int32) (x2 : Int32) (I : SI) (F : SF) (H : Heap) (locs : List Loc) (ls : Array Slot), lv_has ls 4 [(1, .int x1), (2, .int x2)] → va_P D vwCl (mw a cI cZ I F) H → va_S (xA 26 a s.heap.size) s.heap H locs → wp_MM_jumps_25 Post x1 x2 I F → W p l e (headSpec (Cond.code y_MM_jumps b_MM_jumps 4 (some .boolean) :: TB) { frames := 1, cells := 0, slots := 0, locals := 20 }).room s m ([.ref (a 0), .int p1]).toArray below meth c H locs 0 0 Q (F0 m 25 ls []) := by
    intro x1 x2 I F H locs ls hl hP hS hw
    dsimp only [wp_MM_jumps_25] at hw
    refine lv_iload_n hx hb dMM_jumps_25 rfl (lv_at hl 0 rfl) ?_
    refine lv_bipush (v := 15) hx hb dMM_jumps_26 (by decide) ?_
    refine lv_icmp_ne (tgt := 43) hx hb dMM_jumps_28 (by decide) (fun h4 => ?_) (fun h4 => ?_)
    · have hw := hw.1 h4
      refine lv_iload_n hx hb dMM_jumps_43 rfl (lv_at hl 1 rfl) ?_
      refine lv_iconst (v := (-1)) hx hb dMM_jumps_44 (by decide) ?_
      refine lv_icmp_ne (tgt := 52) hx hb dMM_jumps_45 (by decide) (fun h5 => ?_) (fun h5 => ?_)
      · have hw := hw.1 h5
        refine lv_iconst (v := 0) hx hb dMM_jumps_52 (by decide) ?_
        rw [hQ]
        exact W.zret (v := 0) hx hb hr rfl (fun t ht hW => ⟨⟨0, (I, F), rfl, hw, by subst ht; exact hP⟩, hS.F ht⟩) hS.2.2 dMM_jumps_53
      · have hw := hw.2 h5
        refine lv_iconst (v := 1) hx hb dMM_jumps_48 (by decide) ?_
        refine lv_goto (tgt := 53) hx hb dMM_jumps_49 (by decide) ?_
        rw [hQ]
        exact W.zret (v := 1) hx hb hr rfl (fun t ht hW => ⟨⟨1, (I, F), rfl, hw, by subst ht; exact hP⟩, hS.F ht⟩) hS.2.2 dMM_jumps_53
    · have hw := hw.2 h4
      refine lv_iload_n hx hb dMM_jumps_31 rfl (lv_at hl 1 rfl) ?_
      refine lv_if_ne (tgt := 39) hx hb dMM_jumps_32 (by decide) (fun h6 => ?_) (fun h6 => ?_)
      · have hw := hw.1 h6
        refine lv_iconst (v := 0) hx hb dMM_jumps_39 (by decide) ?_
        refine lv_goto (tgt := 53) hx hb dMM_jumps_40 (by decide) ?_
        rw [hQ]
        exact W.zret (v := 0) hx hb hr rfl (fun t ht hW => ⟨⟨0, (I, F), rfl, hw, by subst ht; exact hP⟩, hS.F ht⟩) hS.2.2 dMM_jumps_53
      · have hw := hw.2 h6
        refine lv_iconst (v := 1) hx hb dMM_jumps_35 (by decide) ?_
        refine lv_goto (tgt := 53) hx hb dMM_jumps_36 (by decide) ?_
        rw [hQ]
        exact W.zret (v := 1) hx hb hr rfl (fun t ht hW => ⟨⟨1, (I, F), rfl, hw, by subst ht; exact hP⟩, hS.F ht⟩) hS.2.2 dMM_jumps_53
  suffices hM : ∀ (H : Heap) (locs : List Loc), va_P D vwCl (mw a cI cZ I F) H → va_S (xA 26 a s.heap.size) s.heap H locs → W p l e (headSpec (Cond.code y_MM_jumps b_MM_jumps 4 (some .boolean) :: TB) { frames := 1, cells := 0, slots := 0, locals := 20 }).room s m ([.ref (a 0), .int p1]).toArray below meth c H locs 0 0 (Q) (F0 m 0 ls []) from hM s.heap [] hP va_S.rf
  clear hP
  intro H locs hP hS
  dsimp only [wp_MM_jumps] at hw
  refine lv_iload_n hx hb dMM_jumps_0 rfl (lv_at hl 1 rfl) ?_
  refine lv_bipush (v := 14) hx hb dMM_jumps_1 (by decide) ?_
  refine lv_icmp_ne (tgt := 8) hx hb dMM_jumps_3 (by decide) (fun h1 => ?_) (fun h1 => ?_)
  · have hw := hw.1 h1
    refine lv_aload_n hx hb dMM_jumps_8 rfl (lv_at hl 0 rfl) ?_
    obtain ⟨P2, hc2, hw⟩ := hw
    refine mc_i (va_runV (As := []) (rest := []) ⟨hx, hb, hml, hown, hts⟩ (c_MM_popValue l D a cI cZ hJ I F H.size P2 hc2) (cwV 0 hts (tb_V (C := "CodeJudgeModel") wc_MM_popValue tw_5_59 tw_5_61 tw_0_40 tw_1_9) rfl rfl rfl (by decide +kernel) ⟨Nat.le_of_ble_eq_true rfl, Nat.le_of_ble_eq_true rfl⟩) ⟨mP_bl, va_recv hK hP rfl mw_0, mP_at hP hK⟩ rfl rfl hl.1 rfl (lv_room (Nat.le_of_ble_eq_true rfl)) dMM_jumps_9 ⟨Nat.le_of_ble_eq_true rfl, Nat.le_of_ble_eq_true rfl⟩) hS (fun r2 I2 F2 H locs hP hp2 hS => ?_)
    have hw := hw r2 I2 F2 hp2
    refine lv_istore_n (lv' := [(2, .int r2), (0, .ref (a 0)), (1, .int p1)]) hx hb dMM_jumps_12 rfl hl (by decide) rfl (fun ls hl => ?_)
    refine lv_iload_n hx hb dMM_jumps_13 rfl (lv_at hl 2 rfl) ?_
    refine lv_bipush (v := 15) hx hb dMM_jumps_14 (by decide) ?_
    refine lv_icmp_eq (tgt := 25) hx hb dMM_jumps_16 (by decide) (fun h3 => ?_) (fun h3 => ?_)
    · have hw := hw.1 h3
      exact J25 p1 r2 I2 F2 H locs ls (lv_sub hl [2, 0] rfl) hP hS hw
    · have hw := hw.2 h3
      refine lv_iload_n hx hb dMM_jumps_19 rfl (lv_at hl 2 rfl) ?_
      refine lv_bipush (v := 19) hx hb dMM_jumps_20 (by decide) ?_
      refine lv_icmp_ne (tgt := 54) hx hb dMM_jumps_22 (by decide) (fun h7 => ?_) (fun h7 => ?_)
      · have hw := hw.1 h7
        refine lv_aload_n hx hb dMM_jumps_54 rfl (lv_at hl 1 rfl) ?_
        obtain ⟨P8, hc8, hw⟩ := hw
        refine mc_i (va_runV (As := []) (rest := []) ⟨hx, hb, hml, hown, hts⟩ (c_MM_popValue l D a cI cZ hJ I2 F2 H.size P8 hc8) (cwV 0 hts (tb_V (C := "CodeJudgeModel") wc_MM_popValue tw_5_59 tw_5_61 tw_0_40 tw_1_9) rfl rfl rfl (by decide +kernel) ⟨Nat.le_of_ble_eq_true rfl, Nat.le_of_ble_eq_true rfl⟩) ⟨mP_bl, va_recv hK hP rfl mw_0, mP_at hP hK⟩ rfl rfl hl.1 rfl (lv_room (Nat.le_of_ble_eq_true rfl)) dMM_jumps_55 ⟨Nat.le_of_ble_eq_true rfl, Nat.le_of_ble_eq_true rfl⟩) hS (fun r8 I8 F8 H locs hP hp8 hS => ?_)
        have hw := hw r8 I8 F8 hp8
        refine lv_istore_n (lv' := [(3, .int r8), (2, .int r2), (0, .ref (a 0)), (1, .int p1)]) hx hb dMM_jumps_58 rfl hl (by decide) rfl (fun ls hl => ?_)
        refine lv_iload_n hx hb dMM_jumps_59 rfl (lv_at hl 3 rfl) ?_
        refine lv_bipush (v := 16) hx hb dMM_jumps_60 (by decide) ?_
        refine lv_icmp_ne (tgt := 78) hx hb dMM_jumps_62 (by decide) (fun h9 => ?_) (fun h9 => ?_)
        · have hw := hw.1 h9
          refine lv_iload_n hx hb dMM_jumps_78 rfl (lv_at hl 0 rfl) ?_
          refine lv_iload_n hx hb dMM_jumps_79 rfl (lv_at hl 1 rfl) ?_
          refine lv_icmp_ne (tgt := 87) hx hb dMM_jumps_80 (by decide) (fun h10 => ?_) (fun h10 => ?_)
          · have hw := hw.1 h10
            refine lv_iconst (v := 0) hx hb dMM_jumps_87 (by decide) ?_
            rw [hQ]
            exact W.zret (v := 0) hx hb hr rfl (fun t ht hW => ⟨⟨0, (I8, F8), rfl, hw, by subst ht; exact hP⟩, hS.F ht⟩) hS.2.2 dMM_jumps_88
          · have hw := hw.2 h10
            refine lv_iconst (v := 1) hx hb dMM_jumps_83 (by decide) ?_
            refine lv_goto (tgt := 88) hx hb dMM_jumps_84 (by decide) ?_
            rw [hQ]
            exact W.zret (v := 1) hx hb hr rfl (fun t ht hW => ⟨⟨1, (I8, F8), rfl, hw, by subst ht; exact hP⟩, hS.F ht⟩) hS.2.2 dMM_jumps_88
        · have hw := hw.2 h9
          refine lv_iload_n hx hb dMM_jumps_65 rfl (lv_at hl 0 rfl) ?_
          refine lv_iload_n hx hb dMM_jumps_66 rfl (lv_at hl 1 rfl) ?_
          refine lv_icmp_ge (tgt := 74) hx hb dMM_jumps_67 (by decide) (fun h11 => ?_) (fun h11 => ?_)
          · have hw := hw.1 h11
            refine lv_iconst (v := 0) hx hb dMM_jumps_74 (by decide) ?_
            refine lv_goto (tgt := 88) hx hb dMM_jumps_75 (by decide) ?_
            rw [hQ]
            exact W.zret (v := 0) hx hb hr rfl (fun t ht hW => ⟨⟨0, (I8, F8), rfl, hw, by subst ht; exact hP⟩, hS.F ht⟩) hS.2.2 dMM_jumps_88
          · have hw := hw.2 h11
            refine lv_iconst (v := 1) hx hb dMM_jumps_70 (by decide) ?_
            refine lv_goto (tgt := 88) hx hb dMM_jumps_71 (by decide) ?_
            rw [hQ]
            exact W.zret (v := 1) hx hb hr rfl (fun t ht hW => ⟨⟨1, (I8, F8), rfl, hw, by subst ht; exact hP⟩, hS.F ht⟩) hS.2.2 dMM_jumps_88
      · have hw := hw.2 h7
        exact J25 p1 r2 I2 F2 H locs ls (lv_sub hl [2, 0] rfl) hP hS hw
  · have hw := hw.2 h1
    refine lv_iconst (v := 1) hx hb dMM_jumps_6 (by decide) ?_
    rw [hQ]
    exact W.zret (v := 1) hx hb hr rfl (fun t ht hW => ⟨⟨1, (I, F), rfl, hw, by subst ht; exact hP⟩, hS.F ht⟩) hS.2.2 dMM_jumps_7
def wp_MM_method_58 (Post : Int32 → SI → SF → Prop) (x1 : Int32) (x2 : Int32) (x3 : Int32) (x4 : Int32) (x5 : Int32) (x6 : Int32) (s0 : Int32) (I : SI) (F : SF) : Prop := ∃ P3 : Int32 → SI → SF → Prop, wp_MM_within x1 0 7 I F P3 ∧ ∀ r3 I3 F3, P3 r3 I3 F3 → (∃ P4 : Int32 → SI → SF → Prop, wp_MM_goes r3 s0 1 I3 F3 P4 ∧ ∀ r4 I4 F4, P4 r4 I4 F4 → ((¬ r4 = 0 → (vp_in x1 8 ∧ (∀ x7 : Int32, x7 = ((F4 1) x1.toNatClampNeg) → (vp_in x1 8 ∧ (vp_in x1 8 ∧ (vp_in x1 8 ∧ (vp_in x1 8 ∧ (vp_in x1 8 ∧ (vp_in x1 8 ∧ (vp_in x1 8 ∧ (bo x7 ∧ Post x7 (va_up I4 4 0) (va_up (va_up (va_up (va_up (va_up (va_up (va_up F4 1 (upd (F4 1) x1.toNatClampNeg (vp_nar .boolean 1))) 2 (upd (F4 2) x1.toNatClampNeg x2)) 3 (upd (F4 3) x1.toNatClampNeg x3)) 4 (upd (F4 4) x1.toNatClampNeg x4)) 5 (upd (F4 5) x1.toNatClampNeg x5)) 6 (upd (F4 6) x1.toNatClampNeg x6)) 7 (upd (F4 7) x1.toNatClampNeg 0))))))))))))) ∧ (r4 = 0 → (Post 0 I4 F4))))
def wp_MM_method_57 (Post : Int32 → SI → SF → Prop) (x1 : Int32) (x2 : Int32) (x3 : Int32) (x4 : Int32) (x5 : Int32) (x6 : Int32) (I : SI) (F : SF) : Prop := wp_MM_method_58 Post x1 x2 x3 x4 x5 x6 0 I F
def wp_MM_method (p1 : Int32) (p2 : Int32) (p3 : Int32) (p4 : Int32) (p5 : Int32) (p6 : Int32) (I : SI) (F : SF) (Post : Int32 → SI → SF → Prop) : Prop := ∃ P1 : Int32 → SI → SF → Prop, wp_MM_within p2 0 4 I F P1 ∧ ∀ r1 I1 F1, P1 r1 I1 F1 → ((r1 = 0 → (wp_MM_method_57 Post p1 p2 p3 p4 p5 p6 I1 F1)) ∧ (¬ r1 = 0 → ((p3 < 0 → (wp_MM_method_57 Post p1 p2 p3 p4 p5 p6 I1 F1)) ∧ (¬ p3 < 0 → ((¬ (p3 >>> (p2 &&& 31)) = 0 → (wp_MM_method_57 Post p1 p2 p3 p4 p5 p6 I1 F1)) ∧ ((p3 >>> (p2 &&& 31)) = 0 → (∃ P18 : Int32 → SI → SF → Prop, wp_MM_within p4 0 2 I1 F1 P18 ∧ ∀ r18 I18 F18, P18 r18 I18 F18 → ((r18 = 0 → (wp_MM_method_57 Post p1 p2 p3 p4 p5 p6 I18 F18)) ∧ (¬ r18 = 0 → ((p5 < p2 → (wp_MM_method_57 Post p1 p2 p3 p4 p5 p6 I18 F18)) ∧ (¬ p5 < p2 → ((10 < p5 → (wp_MM_method_57 Post p1 p2 p3 p4 p5 p6 I18 F18)) ∧ (¬ 10 < p5 → (∃ P22 : Int32 → SI → SF → Prop, wp_MM_within p6 0 15 I18 F18 P22 ∧ ∀ r22 I22 F22, P22 r22 I22 F22 → ((r22 = 0 → (wp_MM_method_57 Post p1 p2 p3 p4 p5 p6 I22 F22)) ∧ (¬ r22 = 0 → (wp_MM_method_58 Post p1 p2 p3 p4 p5 p6 1 I22 F22)))))))))))))))))
set_option maxHeartbeats 4000000 in
set_option maxRecDepth 100000 in
theorem c_MM_method (l : Launch) (D : va_G) (a : Nat → Nat) (cI cZ : ClassId) (hJ : xJ 26 a) (I : SI) (F : SF) (p1 : Int32) (p2 : Int32) (p3 : Int32) (p4 : Int32) (p5 : Int32) (p6 : Int32) (sz : Nat) (Post : Int32 → SI → SF → Prop) (hw : wp_MM_method p1 p2 p3 p4 p5 p6 I F Post) : Met l y_MM_method (Cond.code y_MM_method b_MM_method 9 (some .boolean) :: TB) { frames := 1, cells := 0, slots := 0, locals := 23 } (va_Pc [.ref (a 0), .int p1, .int p2, .int p3, .int p4, .int p5, .int p6] (mP D a cI cZ I F sz)) (va_Qi (fun r (u : SI × SF) => Post r u.1 u.2) (fun u t => va_P D vwCl (mw a cI cZ u.1 u.2) t.heap) (xA 26 a sz)) 0 0 (xA 26 a sz) := by
  refine Met.ofW (cc := b_MM_method) (maxL := 9) (ret := (some .boolean)) (by decide) rfl ?_
  intro p e s m args below meth c s₁ B hml hv
  obtain ⟨rfl, rfl, hP, hK⟩ := hv
  have hx := B.exec
  have hb := B.bytes
  have hr := B.returns
  have hts : ∀ w ∈ TB, w.before _ s = true := fun w h => atoms_spec (ws := Cond.code y_MM_method b_MM_method 9 (some .boolean) :: TB) B.pre w (List.mem_cons_of_mem _ h)
  have hown : s.vm.findClass "CodeJudgeModel" = some m.cls := findClass_of_methodNamed B.named
  have hlocks := B.notSynchronized
  have hl := lv_entry ([.ref (a 0), .int p1, .int p2, .int p3, .int p4, .int p5, .int p6]) (n := 9) (Nat.le_of_ble_eq_true rfl)
  rw [lg_entry_eq]
  generalize (lg_sl ([.ref (a 0), .int p1, .int p2, .int p3, .int p4, .int p5, .int p6]) ++ List.replicate (9 - (lg_sl ([.ref (a 0), .int p1, .int p2, .int p3, .int p4, .int p5, .int p6])).length) Slot.unset).toArray = ls at hl ⊢
  have hl : lv_has ls 9 [(0, .ref (a 0)), (1, .int p1), (2, .int p2), (3, .int p3), (4, .int p4), (5, .int p5), (6, .int p6)] := hl
  obtain ⟨Q, hQ⟩ : ∃ Q, Q = MQ below (va_Qi (fun r (u : SI × SF) => Post r u.1 u.2) (fun u t => va_P D vwCl (mw a cI cZ u.1 u.2) t.heap) (xA 26 a s.heap.size)) ([.ref (a 0), .int p1, .int p2, .int p3, .int p4, .int p5, .int p6]).toArray s 0 0 (xA 26 a s.heap.size) := ⟨_, rfl⟩
  rw [← hQ]
  have J58 : ∀ (x1 : Int32) (x2 : Int32) (x3 : Int32) (x4 : Int32) (x5 : Int32) (x6 : Int32) (s0 : Int32) (I : SI) (F : SF) (H : Heap) (locs : List Loc) (ls : Array Slot), lv_has ls 9 [(0, .ref (a 0)), (1, .int x1), (2, .int x2), (3, .int x3), (4, .int x4), (5, .int x5), (6, .int x6)] → va_P D vwCl (mw a cI cZ I F) H → va_S (xA 26 a s.heap.size) s.heap H locs → wp_MM_method_58 Post x1 x2 x3 x4 x5 x6 s0 I F → W p l e (headSpec (Cond.code y_MM_method b_MM_method 9 (some .boolean) :: TB) { frames := 1, cells := 0, slots := 0, locals := 23 }).room s m ([.ref (a 0), .int p1, .int p2, .int p3, .int p4, .int p5, .int p6]).toArray below meth c H locs 0 0 Q (F0 m 58 ls [.int s0]) := by
    intro x1 x2 x3 x4 x5 x6 s0 I F H locs ls hl hP hS hw
    dsimp only [wp_MM_method_58] at hw
    refine lv_istore (lv' := [(7, .int s0), (0, .ref (a 0)), (1, .int x1), (2, .int x2), (3, .int x3), (4, .int x4), (5, .int x5), (6, .int x6)]) hx hb dMM_method_58 hl (by decide) rfl (fun ls hl => ?_)
    refine lv_aload_n hx hb dMM_method_60 rfl (lv_at hl 1 rfl) ?_
    refine lv_iload_n hx hb dMM_method_61 rfl (lv_at hl 2 rfl) ?_
    refine lv_iconst (v := 0) hx hb dMM_method_62 (by decide) ?_
    refine lv_bipush (v := 7) hx hb dMM_method_63 (by decide) ?_
    obtain ⟨P3, hc3, hw⟩ := hw
    refine mc_i (va_runS (As := [.int x1, .int 0, .int 7]) (rest := [.ref (a 0)]) ⟨hx, hb, hml, hown, hts⟩ (c_MM_within l D a cI cZ hJ I F x1 0 7 H.size P3 hc3) (va_cwS 3 hts (tb_S wc_MM_within tw_4_185 tw_4_186 tw_1_9) rfl rfl rfl (by decide +kernel) ⟨Nat.le_of_ble_eq_true rfl, Nat.le_of_ble_eq_true rfl⟩) ⟨mP_bl, mP_at hP hK⟩ rfl rfl hl.1 rfl (lv_room (Nat.le_of_ble_eq_true rfl)) dMM_method_65 ⟨Nat.le_of_ble_eq_true rfl, Nat.le_of_ble_eq_true rfl⟩) hS (fun r3 I3 F3 H locs hP hp3 hS => ?_)
    have hw := hw r3 I3 F3 hp3
    refine lv_iload hx hb dMM_method_68 (lv_at hl 0 rfl) ?_
    refine lv_iconst (v := 1) hx hb dMM_method_70 (by decide) ?_
    obtain ⟨P4, hc4, hw⟩ := hw
    refine mc_i (va_runV (As := [.int r3, .int s0, .int 1]) (rest := []) ⟨hx, hb, hml, hown, hts⟩ (c_MM_goes l D a cI cZ hJ I3 F3 r3 s0 1 H.size P4 hc4) (cwV 3 hts (tb_V (C := "CodeJudgeModel") wc_MM_goes tw_4_188 tw_4_190 tw_0_21 tw_1_9) rfl rfl rfl (by decide +kernel) ⟨Nat.le_of_ble_eq_true rfl, Nat.le_of_ble_eq_true rfl⟩) ⟨mP_bl, va_recv hK hP rfl mw_0, mP_at hP hK⟩ rfl rfl hl.1 rfl (lv_room (Nat.le_of_ble_eq_true rfl)) dMM_method_71 ⟨Nat.le_of_ble_eq_true rfl, Nat.le_of_ble_eq_true rfl⟩) hS (fun r4 I4 F4 H locs hP hp4 hS => ?_)
    have hw := hw r4 I4 F4 hp4
    refine lv_if_ne (tgt := 79) hx hb dMM_method_74 (by decide) (fun h5 => ?_) (fun h5 => ?_)
    · have hw := hw.1 h5
      refine lv_aload_n hx hb dMM_method_79 rfl (lv_at hl 1 rfl) ?_
      refine va_get (D := D) (v := .ref (a 1)) (ci := 8) (C := "CodeJudgeModel") (T := T_MM) (N := 37) hx hb hts in_MM hown hK hP 0 mw_0 rfl 1 (by decide) (hts (.fieldLink "CodeJudgeModel" 7 "CodeJudgeModel" "there" "[Z") tw_4_67) (fun _ h9 => h9) rfl dMM_method_80 ?_
      refine lv_iload_n hx hb dMM_method_83 rfl (lv_at hl 2 rfl) ?_
      obtain ⟨h6, hw⟩ := hw
      refine va_zald hx hb hK hP 1 1 mw_1 rfl h6 dMM_method_84 ?_
      refine lv_topi (fun x7 e_x7 => ?_)
      have hw := hw x7 e_x7
      refine lv_istore (lv' := [(8, .int x7), (7, .int s0), (0, .ref (a 0)), (1, .int x1), (2, .int x2), (3, .int x3), (4, .int x4), (5, .int x5), (6, .int x6)]) hx hb dMM_method_85 hl (by decide) rfl (fun ls hl => ?_)
      refine lv_aload_n hx hb dMM_method_87 rfl (lv_at hl 2 rfl) ?_
      refine va_get (D := D) (v := .ref (a 1)) (ci := 8) (C := "CodeJudgeModel") (T := T_MM) (N := 37) hx hb hts in_MM hown hK hP 0 mw_0 rfl 1 (by decide) (hts (.fieldLink "CodeJudgeModel" 7 "CodeJudgeModel" "there" "[Z") tw_4_67) (fun _ h9 => h9) rfl dMM_method_88 ?_
      refine lv_iload_n hx hb dMM_method_91 rfl (lv_at hl 3 rfl) ?_
      refine lv_iconst (v := 1) hx hb dMM_method_92 (by decide) ?_
      obtain ⟨h8, hw⟩ := hw
      refine va_zast hx hb hK hP (mD hJ) hS 1 1 mw_1 rfl h8 dMM_method_93 (fun H locs hP _ hS => ?_)
      have hP := mwa_1 hP
      refine lv_aload_n hx hb dMM_method_94 rfl (lv_at hl 2 rfl) ?_
      refine va_get (D := D) (v := .ref (a 2)) (ci := 8) (C := "CodeJudgeModel") (T := T_MM) (N := 37) hx hb hts in_MM hown hK hP 0 mw_0 rfl 2 (by decide) (hts (.fieldLink "CodeJudgeModel" 13 "CodeJudgeModel" "parameters" "[I") tw_4_68) (fun _ h9 => h9) rfl dMM_method_95 ?_
      refine lv_iload_n hx hb dMM_method_98 rfl (lv_at hl 3 rfl) ?_
      refine lv_iload_n hx hb dMM_method_99 rfl (lv_at hl 4 rfl) ?_
      obtain ⟨h9, hw⟩ := hw
      refine va_iast hx hb hK hP (mD hJ) hS 2 0 mw_2 rfl h9 dMM_method_100 (fun H locs hP _ hS => ?_)
      have hP := mwa_2 hP
      refine lv_aload_n hx hb dMM_method_101 rfl (lv_at hl 2 rfl) ?_
      refine va_get (D := D) (v := .ref (a 3)) (ci := 8) (C := "CodeJudgeModel") (T := T_MM) (N := 37) hx hb hts in_MM hown hK hP 0 mw_0 rfl 3 (by decide) (hts (.fieldLink "CodeJudgeModel" 17 "CodeJudgeModel" "arrays" "[I") tw_4_69) (fun _ h9 => h9) rfl dMM_method_102 ?_
      refine lv_iload_n hx hb dMM_method_105 rfl (lv_at hl 3 rfl) ?_
      refine lv_iload_n hx hb dMM_method_106 rfl (lv_at hl 5 rfl) ?_
      obtain ⟨h10, hw⟩ := hw
      refine va_iast hx hb hK hP (mD hJ) hS 3 0 mw_3 rfl h10 dMM_method_107 (fun H locs hP _ hS => ?_)
      have hP := mwa_3 hP
      refine lv_aload_n hx hb dMM_method_108 rfl (lv_at hl 2 rfl) ?_
      refine va_get (D := D) (v := .ref (a 4)) (ci := 8) (C := "CodeJudgeModel") (T := T_MM) (N := 37) hx hb hts in_MM hown hK hP 0 mw_0 rfl 4 (by decide) (hts (.fieldLink "CodeJudgeModel" 20 "CodeJudgeModel" "returns" "[I") tw_4_70) (fun _ h9 => h9) rfl dMM_method_109 ?_
      refine lv_iload_n hx hb dMM_method_112 rfl (lv_at hl 3 rfl) ?_
      refine lv_iload hx hb dMM_method_113 (lv_at hl 6 rfl) ?_
      obtain ⟨h11, hw⟩ := hw
      refine va_iast hx hb hK hP (mD hJ) hS 4 0 mw_4 rfl h11 dMM_method_115 (fun H locs hP _ hS => ?_)
      have hP := mwa_4 hP
      refine lv_aload_n hx hb dMM_method_116 rfl (lv_at hl 2 rfl) ?_
      refine va_get (D := D) (v := .ref (a 5)) (ci := 8) (C := "CodeJudgeModel") (T := T_MM) (N := 37) hx hb hts in_MM hown hK hP 0 mw_0 rfl 5 (by decide) (hts (.fieldLink "CodeJudgeModel" 23 "CodeJudgeModel" "locals" "[I") tw_4_71) (fun _ h9 => h9) rfl dMM_method_117 ?_
      refine lv_iload_n hx hb dMM_method_120 rfl (lv_at hl 3 rfl) ?_
      refine lv_iload hx hb dMM_method_121 (lv_at hl 7 rfl) ?_
      obtain ⟨h12, hw⟩ := hw
      refine va_iast hx hb hK hP (mD hJ) hS 5 0 mw_5 rfl h12 dMM_method_123 (fun H locs hP _ hS => ?_)
      have hP := mwa_5 hP
      refine lv_aload_n hx hb dMM_method_124 rfl (lv_at hl 2 rfl) ?_
      refine va_get (D := D) (v := .ref (a 6)) (ci := 8) (C := "CodeJudgeModel") (T := T_MM) (N := 37) hx hb hts in_MM hown hK hP 0 mw_0 rfl 6 (by decide) (hts (.fieldLink "CodeJudgeModel" 26 "CodeJudgeModel" "limits" "[I") tw_4_72) (fun _ h9 => h9) rfl dMM_method_125 ?_
      refine lv_iload_n hx hb dMM_method_128 rfl (lv_at hl 3 rfl) ?_
      refine lv_iload hx hb dMM_method_129 (lv_at hl 8 rfl) ?_
      obtain ⟨h13, hw⟩ := hw
      refine va_iast hx hb hK hP (mD hJ) hS 6 0 mw_6 rfl h13 dMM_method_131 (fun H locs hP _ hS => ?_)
      have hP := mwa_6 hP
      refine lv_aload_n hx hb dMM_method_132 rfl (lv_at hl 2 rfl) ?_
      refine va_get (D := D) (v := .ref (a 7)) (ci := 8) (C := "CodeJudgeModel") (T := T_MM) (N := 37) hx hb hts in_MM hown hK hP 0 mw_0 rfl 7 (by decide) (hts (.fieldLink "CodeJudgeModel" 29 "CodeJudgeModel" "sizes" "[I") tw_4_73) (fun _ h9 => h9) rfl dMM_method_133 ?_
      refine lv_iload_n hx hb dMM_method_136 rfl (lv_at hl 3 rfl) ?_
      refine lv_iconst (v := 0) hx hb dMM_method_137 (by decide) ?_
      obtain ⟨h14, hw⟩ := hw
      refine va_iast hx hb hK hP (mD hJ) hS 7 0 mw_7 rfl h14 dMM_method_138 (fun H locs hP _ hS => ?_)
      have hP := mwa_7 hP
      refine lv_aload_n hx hb dMM_method_139 rfl (lv_at hl 2 rfl) ?_
      refine lv_iconst (v := 0) hx hb dMM_method_140 (by decide) ?_
      refine va_put (D := D) (ci := 8) (v := .int 0) (ty := .boolean) (C := "CodeJudgeModel") (T := T_MM) (N := 37) hx hb hts in_MM ty_MM ok_MM nm_MM hown hK hP (mD hJ) hS 0 mw_0 rfl 20 (by decide) (hts (.fieldLink "CodeJudgeModel" 98 "CodeJudgeModel" "isRun" "Z") tw_4_85) (fun _ h9 => h9) rfl (by decide +kernel) rfl rfl (Nat.le_of_ble_eq_true rfl) dMM_method_141 (fun H locs hP _ hS => ?_)
      have hP := mwp_4 hP
      refine lv_iload hx hb dMM_method_144 (lv_at hl 0 rfl) ?_
      obtain ⟨h15, hw⟩ := hw
      rw [hQ]
      exact W.zret (v := x7) hx hb hr (bo_n h15) (fun t ht hW => ⟨⟨x7, ((va_up I4 4 0), (va_up (va_up (va_up (va_up (va_up (va_up (va_up F4 1 (upd (F4 1) x1.toNatClampNeg (vp_nar .boolean 1))) 2 (upd (F4 2) x1.toNatClampNeg x2)) 3 (upd (F4 3) x1.toNatClampNeg x3)) 4 (upd (F4 4) x1.toNatClampNeg x4)) 5 (upd (F4 5) x1.toNatClampNeg x5)) 6 (upd (F4 6) x1.toNatClampNeg x6)) 7 (upd (F4 7) x1.toNatClampNeg 0))), rfl, hw, by subst ht; exact hP⟩, hS.F ht⟩) hS.2.2 dMM_method_146
    · have hw := hw.2 h5
      refine lv_iconst (v := 0) hx hb dMM_method_77 (by decide) ?_
      rw [hQ]
      exact W.zret (v := 0) hx hb hr rfl (fun t ht hW => ⟨⟨0, (I4, F4), rfl, hw, by subst ht; exact hP⟩, hS.F ht⟩) hS.2.2 dMM_method_78
  have J57 : ∀ (x1 : Int32) (x2 : Int32) (x3 : Int32) (x4 : Int32) (x5 : Int32) (x6 : Int32) (I : SI) (F : SF) (H : Heap) (locs : List Loc) (ls : Array Slot), lv_has ls 9 [(0, .ref (a 0)), (1, .int x1), (2, .int x2), (3, .int x3), (4, .int x4), (5, .int x5), (6, .int x6)] → va_P D vwCl (mw a cI cZ I F) H → va_S (xA 26 a s.heap.size) s.heap H locs → wp_MM_method_57 Post x1 x2 x3 x4 x5 x6 I F → W p l e (headSpec (Cond.code y_MM_method b_MM_method 9 (some .boolean) :: TB) { frames := 1, cells := 0, slots := 0, locals := 23 }).room s m ([.ref (a 0), .int p1, .int p2, .int p3, .int p4, .int p5, .int p6]).toArray below meth c H locs 0 0 Q (F0 m 57 ls []) := by
    intro x1 x2 x3 x4 x5 x6 I F H locs ls hl hP hS hw
    dsimp only [wp_MM_method_57] at hw
    refine lv_iconst (v := 0) hx hb dMM_method_57 (by decide) ?_
    exact J58 x1 x2 x3 x4 x5 x6 0 I F H locs ls (lv_sub hl [0, 1, 2, 3, 4, 5, 6] rfl) hP hS hw
  suffices hM : ∀ (H : Heap) (locs : List Loc), va_P D vwCl (mw a cI cZ I F) H → va_S (xA 26 a s.heap.size) s.heap H locs → W p l e (headSpec (Cond.code y_MM_method b_MM_method 9 (some .boolean) :: TB) { frames := 1, cells := 0, slots := 0, locals := 23 }).room s m ([.ref (a 0), .int p1, .int p2, .int p3, .int p4, .int p5, .int p6]).toArray below meth c H locs 0 0 (Q) (F0 m 0 ls []) from hM s.heap [] hP va_S.rf
  clear hP
  intro H locs hP hS
  dsimp only [wp_MM_method] at hw
  refine lv_iload_n hx hb dMM_method_0 rfl (lv_at hl 2 rfl) ?_
  refine lv_iconst (v := 0) hx hb dMM_method_1 (by decide) ?_
  refine lv_iconst (v := 4) hx hb dMM_method_2 (by decide) ?_
  obtain ⟨P1, hc1, hw⟩ := hw
  refine mc_i (va_runS (As := [.int p2, .int 0, .int 4]) (rest := []) ⟨hx, hb, hml, hown, hts⟩ (c_MM_within l D a cI cZ hJ I F p2 0 4 H.size P1 hc1) (va_cwS 3 hts (tb_S wc_MM_within tw_4_185 tw_4_186 tw_1_9) rfl rfl rfl (by decide +kernel) ⟨Nat.le_of_ble_eq_true rfl, Nat.le_of_ble_eq_true rfl⟩) ⟨mP_bl, mP_at hP hK⟩ rfl rfl hl.1 rfl (lv_room (Nat.le_of_ble_eq_true rfl)) dMM_method_3 ⟨Nat.le_of_ble_eq_true rfl, Nat.le_of_ble_eq_true rfl⟩) hS (fun r1 I1 F1 H locs hP hp1 hS => ?_)
  have hw := hw r1 I1 F1 hp1
  refine lv_if_eq (tgt := 57) hx hb dMM_method_6 (by decide) (fun h2 => ?_) (fun h2 => ?_)
  · have hw := hw.1 h2
    exact J57 p1 p2 p3 p4 p5 p6 I1 F1 H locs ls (lv_sub hl [0, 1, 2, 3, 4, 5, 6] rfl) hP hS hw
  · have hw := hw.2 h2
    refine lv_iload_n hx hb dMM_method_9 rfl (lv_at hl 3 rfl) ?_
    refine lv_if_lt (tgt := 57) hx hb dMM_method_10 (by decide) (fun h16 => ?_) (fun h16 => ?_)
    · have hw := hw.1 h16
      exact J57 p1 p2 p3 p4 p5 p6 I1 F1 H locs ls (lv_sub hl [0, 1, 2, 3, 4, 5, 6] rfl) hP hS hw
    · have hw := hw.2 h16
      refine lv_iload_n hx hb dMM_method_13 rfl (lv_at hl 3 rfl) ?_
      refine lv_iload_n hx hb dMM_method_14 rfl (lv_at hl 2 rfl) ?_
      refine lv_ishr hx hb dMM_method_15 ?_
      refine lv_if_ne (tgt := 57) hx hb dMM_method_16 (by decide) (fun h17 => ?_) (fun h17 => ?_)
      · have hw := hw.1 h17
        exact J57 p1 p2 p3 p4 p5 p6 I1 F1 H locs ls (lv_sub hl [0, 1, 2, 3, 4, 5, 6] rfl) hP hS hw
      · have hw := hw.2 h17
        refine lv_iload hx hb dMM_method_19 (lv_at hl 4 rfl) ?_
        refine lv_iconst (v := 0) hx hb dMM_method_21 (by decide) ?_
        refine lv_iconst (v := 2) hx hb dMM_method_22 (by decide) ?_
        obtain ⟨P18, hc18, hw⟩ := hw
        refine mc_i (va_runS (As := [.int p4, .int 0, .int 2]) (rest := []) ⟨hx, hb, hml, hown, hts⟩ (c_MM_within l D a cI cZ hJ I1 F1 p4 0 2 H.size P18 hc18) (va_cwS 3 hts (tb_S wc_MM_within tw_4_185 tw_4_186 tw_1_9) rfl rfl rfl (by decide +kernel) ⟨Nat.le_of_ble_eq_true rfl, Nat.le_of_ble_eq_true rfl⟩) ⟨mP_bl, mP_at hP hK⟩ rfl rfl hl.1 rfl (lv_room (Nat.le_of_ble_eq_true rfl)) dMM_method_23 ⟨Nat.le_of_ble_eq_true rfl, Nat.le_of_ble_eq_true rfl⟩) hS (fun r18 I18 F18 H locs hP hp18 hS => ?_)
        have hw := hw r18 I18 F18 hp18
        refine lv_if_eq (tgt := 57) hx hb dMM_method_26 (by decide) (fun h19 => ?_) (fun h19 => ?_)
        · have hw := hw.1 h19
          exact J57 p1 p2 p3 p4 p5 p6 I18 F18 H locs ls (lv_sub hl [0, 1, 2, 3, 4, 5, 6] rfl) hP hS hw
        · have hw := hw.2 h19
          refine lv_iload hx hb dMM_method_29 (lv_at hl 5 rfl) ?_
          refine lv_iload_n hx hb dMM_method_31 rfl (lv_at hl 2 rfl) ?_
          refine lv_icmp_lt (tgt := 57) hx hb dMM_method_32 (by decide) (fun h20 => ?_) (fun h20 => ?_)
          · have hw := hw.1 h20
            exact J57 p1 p2 p3 p4 p5 p6 I18 F18 H locs ls (lv_sub hl [0, 1, 2, 3, 4, 5, 6] rfl) hP hS hw
          · have hw := hw.2 h20
            refine lv_iload hx hb dMM_method_35 (lv_at hl 5 rfl) ?_
            refine lv_bipush (v := 10) hx hb dMM_method_37 (by decide) ?_
            refine lv_icmp_gt (tgt := 57) hx hb dMM_method_39 (by decide) (fun h21 => ?_) (fun h21 => ?_)
            · have hw := hw.1 h21
              exact J57 p1 p2 p3 p4 p5 p6 I18 F18 H locs ls (lv_sub hl [0, 1, 2, 3, 4, 5, 6] rfl) hP hS hw
            · have hw := hw.2 h21
              refine lv_iload hx hb dMM_method_42 (lv_at hl 6 rfl) ?_
              refine lv_iconst (v := 0) hx hb dMM_method_44 (by decide) ?_
              refine lv_bipush (v := 15) hx hb dMM_method_45 (by decide) ?_
              obtain ⟨P22, hc22, hw⟩ := hw
              refine mc_i (va_runS (As := [.int p6, .int 0, .int 15]) (rest := []) ⟨hx, hb, hml, hown, hts⟩ (c_MM_within l D a cI cZ hJ I18 F18 p6 0 15 H.size P22 hc22) (va_cwS 3 hts (tb_S wc_MM_within tw_4_185 tw_4_186 tw_1_9) rfl rfl rfl (by decide +kernel) ⟨Nat.le_of_ble_eq_true rfl, Nat.le_of_ble_eq_true rfl⟩) ⟨mP_bl, mP_at hP hK⟩ rfl rfl hl.1 rfl (lv_room (Nat.le_of_ble_eq_true rfl)) dMM_method_47 ⟨Nat.le_of_ble_eq_true rfl, Nat.le_of_ble_eq_true rfl⟩) hS (fun r22 I22 F22 H locs hP hp22 hS => ?_)
              have hw := hw r22 I22 F22 hp22
              refine lv_if_eq (tgt := 57) hx hb dMM_method_50 (by decide) (fun h23 => ?_) (fun h23 => ?_)
              · have hw := hw.1 h23
                exact J57 p1 p2 p3 p4 p5 p6 I22 F22 H locs ls (lv_sub hl [0, 1, 2, 3, 4, 5, 6] rfl) hP hS hw
              · have hw := hw.2 h23
                refine lv_iconst (v := 1) hx hb dMM_method_53 (by decide) ?_
                refine lv_goto (tgt := 58) hx hb dMM_method_54 (by decide) ?_
                exact J58 p1 p2 p3 p4 p5 p6 1 I22 F22 H locs ls (lv_sub hl [0, 1, 2, 3, 4, 5, 6] rfl) hP hS hw
def wp_MM_of (p1 : Int32) (p2 : Int32) (p3 : Int32) (p4 : Int32) (p5 : Int32) (I : SI) (F : SF) (Post : Int32 → SI → SF → Prop) : Prop := (¬ p1 = 0 → ((¬ p1 = 1 → ((¬ p1 = 2 → (Post p5 I F)) ∧ (p1 = 2 → (Post p4 I F)))) ∧ (p1 = 1 → (Post p3 I F)))) ∧ (p1 = 0 → (Post p2 I F))
set_option maxHeartbeats 4000000 in
set_option maxRecDepth 100000 in
theorem c_MM_of (l : Launch) (D : va_G) (a : Nat → Nat) (cI cZ : ClassId) (hJ : xJ 26 a) (I : SI) (F : SF) (p1 : Int32) (p2 : Int32) (p3 : Int32) (p4 : Int32) (p5 : Int32) (sz : Nat) (Post : Int32 → SI → SF → Prop) (hw : wp_MM_of p1 p2 p3 p4 p5 I F Post) : Met l y_MM_of (Cond.code y_MM_of b_MM_of 5 (some .int) :: TB) { frames := 0, cells := 0, slots := 0, locals := 0 } (va_Pc [.int p1, .int p2, .int p3, .int p4, .int p5] (mP D a cI cZ I F sz)) (va_Qi (fun r (u : SI × SF) => Post r u.1 u.2) (fun u t => va_P D vwCl (mw a cI cZ u.1 u.2) t.heap) (xA 26 a sz)) 0 0 (xA 26 a sz) := by
  refine Met.ofW (cc := b_MM_of) (maxL := 5) (ret := (some .int)) (by decide) rfl ?_
  intro p e s m args below meth c s₁ B hml hv
  obtain ⟨rfl, rfl, hP, hK⟩ := hv
  have hx := B.exec
  have hb := B.bytes
  have hr := B.returns
  have hts : ∀ w ∈ TB, w.before _ s = true := fun w h => atoms_spec (ws := Cond.code y_MM_of b_MM_of 5 (some .int) :: TB) B.pre w (List.mem_cons_of_mem _ h)
  have hown : s.vm.findClass "CodeJudgeModel" = some m.cls := findClass_of_methodNamed B.named
  have hlocks := B.notSynchronized
  have hl := lv_entry ([.int p1, .int p2, .int p3, .int p4, .int p5]) (n := 5) (Nat.le_of_ble_eq_true rfl)
  rw [lg_entry_eq]
  generalize (lg_sl ([.int p1, .int p2, .int p3, .int p4, .int p5]) ++ List.replicate (5 - (lg_sl ([.int p1, .int p2, .int p3, .int p4, .int p5])).length) Slot.unset).toArray = ls at hl ⊢
  have hl : lv_has ls 5 [(0, .int p1), (1, .int p2), (2, .int p3), (3, .int p4), (4, .int p5)] := hl
  suffices hM : ∀ (H : Heap) (locs : List Loc), va_P D vwCl (mw a cI cZ I F) H → va_S (xA 26 a s.heap.size) s.heap H locs → W p l e (headSpec (Cond.code y_MM_of b_MM_of 5 (some .int) :: TB) { frames := 0, cells := 0, slots := 0, locals := 0 }).room s m ([.int p1, .int p2, .int p3, .int p4, .int p5]).toArray below meth c H locs 0 0 (MQ below (va_Qi (fun r (u : SI × SF) => Post r u.1 u.2) (fun u t => va_P D vwCl (mw a cI cZ u.1 u.2) t.heap) (xA 26 a s.heap.size)) ([.int p1, .int p2, .int p3, .int p4, .int p5]).toArray s 0 0 (xA 26 a s.heap.size)) (F0 m 0 ls []) from hM s.heap [] hP va_S.rf
  clear hP
  intro H locs hP hS
  dsimp only [wp_MM_of] at hw
  refine lv_iload_n hx hb dMM_of_0 rfl (lv_at hl 0 rfl) ?_
  refine lv_if_ne (tgt := 8) hx hb dMM_of_1 (by decide) (fun h1 => ?_) (fun h1 => ?_)
  · have hw := hw.1 h1
    refine lv_iload_n hx hb dMM_of_8 rfl (lv_at hl 0 rfl) ?_
    refine lv_iconst (v := 1) hx hb dMM_of_9 (by decide) ?_
    refine lv_icmp_ne (tgt := 17) hx hb dMM_of_10 (by decide) (fun h2 => ?_) (fun h2 => ?_)
    · have hw := hw.1 h2
      refine lv_iload_n hx hb dMM_of_17 rfl (lv_at hl 0 rfl) ?_
      refine lv_iconst (v := 2) hx hb dMM_of_18 (by decide) ?_
      refine lv_icmp_ne (tgt := 26) hx hb dMM_of_19 (by decide) (fun h3 => ?_) (fun h3 => ?_)
      · have hw := hw.1 h3
        refine lv_iload hx hb dMM_of_26 (lv_at hl 4 rfl) ?_
        exact W.iret (v := p5) hx hb hr (fun t ht hW => ⟨⟨p5, (I, F), rfl, hw, by subst ht; exact hP⟩, hS.F ht⟩) hS.2.2 dMM_of_28
      · have hw := hw.2 h3
        refine lv_iload_n hx hb dMM_of_22 rfl (lv_at hl 3 rfl) ?_
        refine lv_goto (tgt := 28) hx hb dMM_of_23 (by decide) ?_
        exact W.iret (v := p4) hx hb hr (fun t ht hW => ⟨⟨p4, (I, F), rfl, hw, by subst ht; exact hP⟩, hS.F ht⟩) hS.2.2 dMM_of_28
    · have hw := hw.2 h2
      refine lv_iload_n hx hb dMM_of_13 rfl (lv_at hl 2 rfl) ?_
      refine lv_goto (tgt := 28) hx hb dMM_of_14 (by decide) ?_
      exact W.iret (v := p3) hx hb hr (fun t ht hW => ⟨⟨p3, (I, F), rfl, hw, by subst ht; exact hP⟩, hS.F ht⟩) hS.2.2 dMM_of_28
  · have hw := hw.2 h1
    refine lv_iload_n hx hb dMM_of_4 rfl (lv_at hl 1 rfl) ?_
    refine lv_goto (tgt := 28) hx hb dMM_of_5 (by decide) ?_
    exact W.iret (v := p2) hx hb hr (fun t ht hW => ⟨⟨p2, (I, F), rfl, hw, by subst ht; exact hP⟩, hS.F ht⟩) hS.2.2 dMM_of_28
def wp_MM_output_36 (Post : Int32 → SI → SF → Prop) (x1 : Int32) (s0 : Int32) (I : SI) (F : SF) : Prop := ∃ P2 : Int32 → SI → SF → Prop, wp_MM_goes s0 1 1 I F P2 ∧ ∀ r2 I2 F2, P2 r2 I2 F2 → ((r2 = 0 → (Post 0 I2 F2)) ∧ (¬ r2 = 0 → ((¬ (100 : Int32) = 0) ∧ (vp_in (x1 - x1 / 100 * 100) 100 ∧ (Post ((F2 25) (x1 - x1 / 100 * 100 : Int32).toNatClampNeg) I2 F2)))))
def wp_MM_output_35 (Post : Int32 → SI → SF → Prop) (x1 : Int32) (I : SI) (F : SF) : Prop := wp_MM_output_36 Post x1 0 I F
def wp_MM_output (p1 : Int32) (I : SI) (F : SF) (Post : Int32 → SI → SF → Prop) : Prop := ((I 4) = 0 → (wp_MM_output_35 Post p1 I F)) ∧ (¬ (I 4) = 0 → ((p1 < 0 → (wp_MM_output_35 Post p1 I F)) ∧ (¬ p1 < 0 → (((I 11) ≤ p1 → (wp_MM_output_35 Post p1 I F)) ∧ (¬ (I 11) ≤ p1 → ((p1 < ((I 11) - 100) → (wp_MM_output_35 Post p1 I F)) ∧ (¬ p1 < ((I 11) - 100) → (wp_MM_output_36 Post p1 1 I F))))))))
set_option maxHeartbeats 4000000 in
set_option maxRecDepth 100000 in
theorem c_MM_output (l : Launch) (D : va_G) (a : Nat → Nat) (cI cZ : ClassId) (hJ : xJ 26 a) (I : SI) (F : SF) (p1 : Int32) (sz : Nat) (Post : Int32 → SI → SF → Prop) (hw : wp_MM_output p1 I F Post) : Met l y_MM_output (Cond.code y_MM_output b_MM_output 2 (some .int) :: TB) { frames := 1, cells := 0, slots := 0, locals := 23 } (va_Pc [.ref (a 0), .int p1] (mP D a cI cZ I F sz)) (va_Qi (fun r (u : SI × SF) => Post r u.1 u.2) (fun u t => va_P D vwCl (mw a cI cZ u.1 u.2) t.heap) (xA 26 a sz)) 0 0 (xA 26 a sz) := by
  refine Met.ofW (cc := b_MM_output) (maxL := 2) (ret := (some .int)) (by decide) rfl ?_
  intro p e s m args below meth c s₁ B hml hv
  obtain ⟨rfl, rfl, hP, hK⟩ := hv
  have hx := B.exec
  have hb := B.bytes
  have hr := B.returns
  have hts : ∀ w ∈ TB, w.before _ s = true := fun w h => atoms_spec (ws := Cond.code y_MM_output b_MM_output 2 (some .int) :: TB) B.pre w (List.mem_cons_of_mem _ h)
  have hown : s.vm.findClass "CodeJudgeModel" = some m.cls := findClass_of_methodNamed B.named
  have hlocks := B.notSynchronized
  have hl := lv_entry ([.ref (a 0), .int p1]) (n := 2) (Nat.le_of_ble_eq_true rfl)
  rw [lg_entry_eq]
  generalize (lg_sl ([.ref (a 0), .int p1]) ++ List.replicate (2 - (lg_sl ([.ref (a 0), .int p1])).length) Slot.unset).toArray = ls at hl ⊢
  have hl : lv_has ls 2 [(0, .ref (a 0)), (1, .int p1)] := hl
  obtain ⟨Q, hQ⟩ : ∃ Q, Q = MQ below (va_Qi (fun r (u : SI × SF) => Post r u.1 u.2) (fun u t => va_P D vwCl (mw a cI cZ u.1 u.2) t.heap) (xA 26 a s.heap.size)) ([.ref (a 0), .int p1]).toArray s 0 0 (xA 26 a s.heap.size) := ⟨_, rfl⟩
  rw [← hQ]
  have J36 : ∀ (x1 : Int32) (s0 : Int32) (I : SI) (F : SF) (H : Heap) (locs : List Loc) (ls : Array Slot), lv_has ls 2 [(0, .ref (a 0)), (1, .int x1)] → va_P D vwCl (mw a cI cZ I F) H → va_S (xA 26 a s.heap.size) s.heap H locs → wp_MM_output_36 Post x1 s0 I F → W p l e (headSpec (Cond.code y_MM_output b_MM_output 2 (some .int) :: TB) { frames := 1, cells := 0, slots := 0, locals := 23 }).room s m ([.ref (a 0), .int p1]).toArray below meth c H locs 0 0 Q (F0 m 36 ls [.int s0, .ref (a 0)]) := by
    intro x1 s0 I F H locs ls hl hP hS hw
    dsimp only [wp_MM_output_36] at hw
    refine lv_iconst (v := 1) hx hb dMM_output_36 (by decide) ?_
    refine lv_iconst (v := 1) hx hb dMM_output_37 (by decide) ?_
    obtain ⟨P2, hc2, hw⟩ := hw
    refine mc_i (va_runV (As := [.int s0, .int 1, .int 1]) (rest := []) ⟨hx, hb, hml, hown, hts⟩ (c_MM_goes l D a cI cZ hJ I F s0 1 1 H.size P2 hc2) (cwV 3 hts (tb_V (C := "CodeJudgeModel") wc_MM_goes tw_4_188 tw_4_190 tw_0_21 tw_1_9) rfl rfl rfl (by decide +kernel) ⟨Nat.le_of_ble_eq_true rfl, Nat.le_of_ble_eq_true rfl⟩) ⟨mP_bl, va_recv hK hP rfl mw_0, mP_at hP hK⟩ rfl rfl hl.1 rfl (lv_room (Nat.le_of_ble_eq_true rfl)) dMM_output_38 ⟨Nat.le_of_ble_eq_true rfl, Nat.le_of_ble_eq_true rfl⟩) hS (fun r2 I2 F2 H locs hP hp2 hS => ?_)
    have hw := hw r2 I2 F2 hp2
    refine lv_if_eq (tgt := 56) hx hb dMM_output_41 (by decide) (fun h3 => ?_) (fun h3 => ?_)
    · have hw := hw.1 h3
      refine lv_iconst (v := 0) hx hb dMM_output_56 (by decide) ?_
      rw [hQ]
      exact W.iret (v := 0) hx hb hr (fun t ht hW => ⟨⟨0, (I2, F2), rfl, hw, by subst ht; exact hP⟩, hS.F ht⟩) hS.2.2 dMM_output_57
    · have hw := hw.2 h3
      refine lv_aload_n hx hb dMM_output_44 rfl (lv_at hl 0 rfl) ?_
      refine va_get (D := D) (v := .ref (a 25)) (ci := 8) (C := "CodeJudgeModel") (T := T_MM) (N := 37) hx hb hts in_MM hown hK hP 0 mw_0 rfl 36 (by decide) (hts (.fieldLink "CodeJudgeModel" 83 "CodeJudgeModel" "output" "[I") tw_4_101) (fun _ h9 => h9) rfl dMM_output_45 ?_
      refine lv_iload_n hx hb dMM_output_48 rfl (lv_at hl 1 rfl) ?_
      refine lv_bipush (v := 100) hx hb dMM_output_49 (by decide) ?_
      obtain ⟨h4, hw⟩ := hw
      refine lv_irem hx hb dMM_output_51 h4 ?_
      obtain ⟨h5, hw⟩ := hw
      refine va_iald hx hb hK hP 25 0 mw_25 rfl h5 dMM_output_52 ?_
      refine lv_goto (tgt := 57) hx hb dMM_output_53 (by decide) ?_
      rw [hQ]
      exact W.iret (v := ((F2 25) (x1 - x1 / 100 * 100 : Int32).toNatClampNeg)) hx hb hr (fun t ht hW => ⟨⟨((F2 25) (x1 - x1 / 100 * 100 : Int32).toNatClampNeg), (I2, F2), rfl, hw, by subst ht; exact hP⟩, hS.F ht⟩) hS.2.2 dMM_output_57
  have J35 : ∀ (x1 : Int32) (I : SI) (F : SF) (H : Heap) (locs : List Loc) (ls : Array Slot), lv_has ls 2 [(0, .ref (a 0)), (1, .int x1)] → va_P D vwCl (mw a cI cZ I F) H → va_S (xA 26 a s.heap.size) s.heap H locs → wp_MM_output_35 Post x1 I F → W p l e (headSpec (Cond.code y_MM_output b_MM_output 2 (some .int) :: TB) { frames := 1, cells := 0, slots := 0, locals := 23 }).room s m ([.ref (a 0), .int p1]).toArray below meth c H locs 0 0 Q (F0 m 35 ls [.ref (a 0)]) := by
    intro x1 I F H locs ls hl hP hS hw
    dsimp only [wp_MM_output_35] at hw
    refine lv_iconst (v := 0) hx hb dMM_output_35 (by decide) ?_
    exact J36 x1 0 I F H locs ls (lv_sub hl [0, 1] rfl) hP hS hw
  suffices hM : ∀ (H : Heap) (locs : List Loc), va_P D vwCl (mw a cI cZ I F) H → va_S (xA 26 a s.heap.size) s.heap H locs → W p l e (headSpec (Cond.code y_MM_output b_MM_output 2 (some .int) :: TB) { frames := 1, cells := 0, slots := 0, locals := 23 }).room s m ([.ref (a 0), .int p1]).toArray below meth c H locs 0 0 (Q) (F0 m 0 ls []) from hM s.heap [] hP va_S.rf
  clear hP
  intro H locs hP hS
  dsimp only [wp_MM_output] at hw
  refine lv_aload_n hx hb dMM_output_0 rfl (lv_at hl 0 rfl) ?_
  refine lv_aload_n hx hb dMM_output_1 rfl (lv_at hl 0 rfl) ?_
  refine va_get (D := D) (v := .int (I 4)) (ci := 8) (C := "CodeJudgeModel") (T := T_MM) (N := 37) hx hb hts in_MM hown hK hP 0 mw_0 rfl 20 (by decide) (hts (.fieldLink "CodeJudgeModel" 98 "CodeJudgeModel" "isRun" "Z") tw_4_85) (fun _ h9 => h9) rfl dMM_output_2 ?_
  refine lv_if_eq (tgt := 35) hx hb dMM_output_5 (by decide) (fun h1 => ?_) (fun h1 => ?_)
  · have hw := hw.1 h1
    exact J35 p1 I F H locs ls (lv_sub hl [0, 1] rfl) hP hS hw
  · have hw := hw.2 h1
    refine lv_iload_n hx hb dMM_output_8 rfl (lv_at hl 1 rfl) ?_
    refine lv_if_lt (tgt := 35) hx hb dMM_output_9 (by decide) (fun h6 => ?_) (fun h6 => ?_)
    · have hw := hw.1 h6
      exact J35 p1 I F H locs ls (lv_sub hl [0, 1] rfl) hP hS hw
    · have hw := hw.2 h6
      refine lv_iload_n hx hb dMM_output_12 rfl (lv_at hl 1 rfl) ?_
      refine lv_aload_n hx hb dMM_output_13 rfl (lv_at hl 0 rfl) ?_
      refine va_get (D := D) (v := .int (I 11)) (ci := 8) (C := "CodeJudgeModel") (T := T_MM) (N := 37) hx hb hts in_MM hown hK hP 0 mw_0 rfl 35 (by decide) (hts (.fieldLink "CodeJudgeModel" 173 "CodeJudgeModel" "outs" "I") tw_4_100) (fun _ h9 => h9) rfl dMM_output_14 ?_
      refine lv_icmp_ge (tgt := 35) hx hb dMM_output_17 (by decide) (fun h7 => ?_) (fun h7 => ?_)
      · have hw := hw.1 h7
        exact J35 p1 I F H locs ls (lv_sub hl [0, 1] rfl) hP hS hw
      · have hw := hw.2 h7
        refine lv_iload_n hx hb dMM_output_20 rfl (lv_at hl 1 rfl) ?_
        refine lv_aload_n hx hb dMM_output_21 rfl (lv_at hl 0 rfl) ?_
        refine va_get (D := D) (v := .int (I 11)) (ci := 8) (C := "CodeJudgeModel") (T := T_MM) (N := 37) hx hb hts in_MM hown hK hP 0 mw_0 rfl 35 (by decide) (hts (.fieldLink "CodeJudgeModel" 173 "CodeJudgeModel" "outs" "I") tw_4_100) (fun _ h9 => h9) rfl dMM_output_22 ?_
        refine lv_bipush (v := 100) hx hb dMM_output_25 (by decide) ?_
        refine lv_isub hx hb dMM_output_27 ?_
        refine lv_icmp_lt (tgt := 35) hx hb dMM_output_28 (by decide) (fun h8 => ?_) (fun h8 => ?_)
        · have hw := hw.1 h8
          exact J35 p1 I F H locs ls (lv_sub hl [0, 1] rfl) hP hS hw
        · have hw := hw.2 h8
          refine lv_iconst (v := 1) hx hb dMM_output_31 (by decide) ?_
          refine lv_goto (tgt := 36) hx hb dMM_output_32 (by decide) ?_
          exact J36 p1 1 I F H locs ls (lv_sub hl [0, 1] rfl) hP hS hw
def wp_MM_patch (p1 : Int32) (p2 : Int32) (p3 : Int32) (I : SI) (F : SF) (Post : Int32 → SI → SF → Prop) : Prop := ∃ P1 : Int32 → SI → SF → Prop, wp_MM_isPlace p1 p2 I F P1 ∧ ∀ r1 I1 F1, P1 r1 I1 F1 → (∃ P2 : Int32 → SI → SF → Prop, wp_MM_goes r1 1 1 I1 F1 P2 ∧ ∀ r2 I2 F2, P2 r2 I2 F2 → ((¬ r2 = 0 → (vp_in (((120 : Int32) * p1) + p2) 960 ∧ (∀ x5 : Int32, x5 = ((F2 9) (((120 : Int32) * p1) + p2 : Int32).toNatClampNeg) → (vp_in (((120 : Int32) * p1) + p2) 960 ∧ (Post x5 (va_up I2 4 0) (va_up F2 9 (upd (F2 9) (((120 : Int32) * p1) + p2 : Int32).toNatClampNeg p3))))))) ∧ (r2 = 0 → (Post 0 I2 F2))))
set_option maxHeartbeats 4000000 in
set_option maxRecDepth 100000 in
theorem c_MM_patch (l : Launch) (D : va_G) (a : Nat → Nat) (cI cZ : ClassId) (hJ : xJ 26 a) (I : SI) (F : SF) (p1 : Int32) (p2 : Int32) (p3 : Int32) (sz : Nat) (Post : Int32 → SI → SF → Prop) (hw : wp_MM_patch p1 p2 p3 I F Post) : Met l y_MM_patch (Cond.code y_MM_patch b_MM_patch 5 (some .int) :: TB) { frames := 2, cells := 0, slots := 0, locals := 43 } (va_Pc [.ref (a 0), .int p1, .int p2, .int p3] (mP D a cI cZ I F sz)) (va_Qi (fun r (u : SI × SF) => Post r u.1 u.2) (fun u t => va_P D vwCl (mw a cI cZ u.1 u.2) t.heap) (xA 26 a sz)) 0 0 (xA 26 a sz) := by
  refine Met.ofW (cc := b_MM_patch) (maxL := 5) (ret := (some .int)) (by decide) rfl ?_
  intro p e s m args below meth c s₁ B hml hv
  obtain ⟨rfl, rfl, hP, hK⟩ := hv
  have hx := B.exec
  have hb := B.bytes
  have hr := B.returns
  have hts : ∀ w ∈ TB, w.before _ s = true := fun w h => atoms_spec (ws := Cond.code y_MM_patch b_MM_patch 5 (some .int) :: TB) B.pre w (List.mem_cons_of_mem _ h)
  have hown : s.vm.findClass "CodeJudgeModel" = some m.cls := findClass_of_methodNamed B.named
  have hlocks := B.notSynchronized
  have hl := lv_entry ([.ref (a 0), .int p1, .int p2, .int p3]) (n := 5) (Nat.le_of_ble_eq_true rfl)
  rw [lg_entry_eq]
  generalize (lg_sl ([.ref (a 0), .int p1, .int p2, .int p3]) ++ List.replicate (5 - (lg_sl ([.ref (a 0), .int p1, .int p2, .int p3])).length) Slot.unset).toArray = ls at hl ⊢
  have hl : lv_has ls 5 [(0, .ref (a 0)), (1, .int p1), (2, .int p2), (3, .int p3)] := hl
  suffices hM : ∀ (H : Heap) (locs : List Loc), va_P D vwCl (mw a cI cZ I F) H → va_S (xA 26 a s.heap.size) s.heap H locs → W p l e (headSpec (Cond.code y_MM_patch b_MM_patch 5 (some .int) :: TB) { frames := 2, cells := 0, slots := 0, locals := 43 }).room s m ([.ref (a 0), .int p1, .int p2, .int p3]).toArray below meth c H locs 0 0 (MQ below (va_Qi (fun r (u : SI × SF) => Post r u.1 u.2) (fun u t => va_P D vwCl (mw a cI cZ u.1 u.2) t.heap) (xA 26 a s.heap.size)) ([.ref (a 0), .int p1, .int p2, .int p3]).toArray s 0 0 (xA 26 a s.heap.size)) (F0 m 0 ls []) from hM s.heap [] hP va_S.rf
  clear hP
  intro H locs hP hS
  dsimp only [wp_MM_patch] at hw
  refine lv_aload_n hx hb dMM_patch_0 rfl (lv_at hl 0 rfl) ?_
  refine lv_aload_n hx hb dMM_patch_1 rfl (lv_at hl 0 rfl) ?_
  refine lv_iload_n hx hb dMM_patch_2 rfl (lv_at hl 1 rfl) ?_
  refine lv_iload_n hx hb dMM_patch_3 rfl (lv_at hl 2 rfl) ?_
  obtain ⟨P1, hc1, hw⟩ := hw
  refine mc_i (va_runV (As := [.int p1, .int p2]) (rest := [.ref (a 0)]) ⟨hx, hb, hml, hown, hts⟩ (c_MM_isPlace l D a cI cZ hJ I F p1 p2 H.size P1 hc1) (cwV 2 hts (tb_V (C := "CodeJudgeModel") wc_MM_isPlace tw_4_204 tw_4_206 tw_0_23 tw_1_9) rfl rfl rfl (by decide +kernel) ⟨Nat.le_of_ble_eq_true rfl, Nat.le_of_ble_eq_true rfl⟩) ⟨mP_bl, va_recv hK hP rfl mw_0, mP_at hP hK⟩ rfl rfl hl.1 rfl (lv_room (Nat.le_of_ble_eq_true rfl)) dMM_patch_4 ⟨Nat.le_of_ble_eq_true rfl, Nat.le_of_ble_eq_true rfl⟩) hS (fun r1 I1 F1 H locs hP hp1 hS => ?_)
  have hw := hw r1 I1 F1 hp1
  refine lv_iconst (v := 1) hx hb dMM_patch_7 (by decide) ?_
  refine lv_iconst (v := 1) hx hb dMM_patch_8 (by decide) ?_
  obtain ⟨P2, hc2, hw⟩ := hw
  refine mc_i (va_runV (As := [.int r1, .int 1, .int 1]) (rest := []) ⟨hx, hb, hml, hown, hts⟩ (c_MM_goes l D a cI cZ hJ I1 F1 r1 1 1 H.size P2 hc2) (cwV 3 hts (tb_V (C := "CodeJudgeModel") wc_MM_goes tw_4_188 tw_4_190 tw_0_21 tw_1_9) rfl rfl rfl (by decide +kernel) ⟨Nat.le_of_ble_eq_true rfl, Nat.le_of_ble_eq_true rfl⟩) ⟨mP_bl, va_recv hK hP rfl mw_0, mP_at hP hK⟩ rfl rfl hl.1 rfl (lv_room (Nat.le_of_ble_eq_true rfl)) dMM_patch_9 ⟨Nat.le_of_ble_eq_true rfl, Nat.le_of_ble_eq_true rfl⟩) hS (fun r2 I2 F2 H locs hP hp2 hS => ?_)
  have hw := hw r2 I2 F2 hp2
  refine lv_if_ne (tgt := 17) hx hb dMM_patch_12 (by decide) (fun h3 => ?_) (fun h3 => ?_)
  · have hw := hw.1 h3
    refine lv_aload_n hx hb dMM_patch_17 rfl (lv_at hl 0 rfl) ?_
    refine va_get (D := D) (v := .ref (a 9)) (ci := 8) (C := "CodeJudgeModel") (T := T_MM) (N := 37) hx hb hts in_MM hown hK hP 0 mw_0 rfl 9 (by decide) (hts (.fieldLink "CodeJudgeModel" 35 "CodeJudgeModel" "numbers" "[I") tw_4_75) (fun _ h9 => h9) rfl dMM_patch_18 ?_
    refine lv_bipush (v := 120) hx hb dMM_patch_21 (by decide) ?_
    refine lv_iload_n hx hb dMM_patch_23 rfl (lv_at hl 1 rfl) ?_
    refine lv_imul hx hb dMM_patch_24 ?_
    refine lv_iload_n hx hb dMM_patch_25 rfl (lv_at hl 2 rfl) ?_
    refine lv_iadd hx hb dMM_patch_26 ?_
    obtain ⟨h4, hw⟩ := hw
    refine va_iald hx hb hK hP 9 0 mw_9 rfl h4 dMM_patch_27 ?_
    refine lv_topi (fun x5 e_x5 => ?_)
    have hw := hw x5 e_x5
    refine lv_istore (lv' := [(4, .int x5), (0, .ref (a 0)), (1, .int p1), (2, .int p2), (3, .int p3)]) hx hb dMM_patch_28 hl (by decide) rfl (fun ls hl => ?_)
    refine lv_aload_n hx hb dMM_patch_30 rfl (lv_at hl 1 rfl) ?_
    refine va_get (D := D) (v := .ref (a 9)) (ci := 8) (C := "CodeJudgeModel") (T := T_MM) (N := 37) hx hb hts in_MM hown hK hP 0 mw_0 rfl 9 (by decide) (hts (.fieldLink "CodeJudgeModel" 35 "CodeJudgeModel" "numbers" "[I") tw_4_75) (fun _ h9 => h9) rfl dMM_patch_31 ?_
    refine lv_bipush (v := 120) hx hb dMM_patch_34 (by decide) ?_
    refine lv_iload_n hx hb dMM_patch_36 rfl (lv_at hl 2 rfl) ?_
    refine lv_imul hx hb dMM_patch_37 ?_
    refine lv_iload_n hx hb dMM_patch_38 rfl (lv_at hl 3 rfl) ?_
    refine lv_iadd hx hb dMM_patch_39 ?_
    refine lv_iload_n hx hb dMM_patch_40 rfl (lv_at hl 4 rfl) ?_
    obtain ⟨h6, hw⟩ := hw
    refine va_iast hx hb hK hP (mD hJ) hS 9 0 mw_9 rfl h6 dMM_patch_41 (fun H locs hP _ hS => ?_)
    have hP := mwa_9 hP
    refine lv_aload_n hx hb dMM_patch_42 rfl (lv_at hl 1 rfl) ?_
    refine lv_iconst (v := 0) hx hb dMM_patch_43 (by decide) ?_
    refine va_put (D := D) (ci := 8) (v := .int 0) (ty := .boolean) (C := "CodeJudgeModel") (T := T_MM) (N := 37) hx hb hts in_MM ty_MM ok_MM nm_MM hown hK hP (mD hJ) hS 0 mw_0 rfl 20 (by decide) (hts (.fieldLink "CodeJudgeModel" 98 "CodeJudgeModel" "isRun" "Z") tw_4_85) (fun _ h9 => h9) rfl (by decide +kernel) rfl rfl (Nat.le_of_ble_eq_true rfl) dMM_patch_44 (fun H locs hP _ hS => ?_)
    have hP := mwp_4 hP
    refine lv_iload hx hb dMM_patch_47 (lv_at hl 0 rfl) ?_
    exact W.iret (v := x5) hx hb hr (fun t ht hW => ⟨⟨x5, ((va_up I2 4 0), (va_up F2 9 (upd (F2 9) (((120 : Int32) * p1) + p2 : Int32).toNatClampNeg p3))), rfl, hw, by subst ht; exact hP⟩, hS.F ht⟩) hS.2.2 dMM_patch_49
  · have hw := hw.2 h3
    refine lv_iconst (v := 0) hx hb dMM_patch_15 (by decide) ?_
    exact W.iret (v := 0) hx hb hr (fun t ht hW => ⟨⟨0, (I2, F2), rfl, hw, by subst ht; exact hP⟩, hS.F ht⟩) hS.2.2 dMM_patch_16
def wp_MM_peek (p1 : Int32) (I : SI) (F : SF) (Post : Int32 → SI → SF → Prop) : Prop := vp_in ((I 5) - 1) 50 ∧ (vp_in (((((16 : Int32) * (I 5)) - 17) + ((F 19) ((I 5) - 1 : Int32).toNatClampNeg)) - p1) 800 ∧ (Post ((F 20) (((((16 : Int32) * (I 5)) - 17) + ((F 19) ((I 5) - 1 : Int32).toNatClampNeg)) - p1 : Int32).toNatClampNeg) I F))
set_option maxHeartbeats 4000000 in
set_option maxRecDepth 100000 in
theorem c_MM_peek (l : Launch) (D : va_G) (a : Nat → Nat) (cI cZ : ClassId) (hJ : xJ 26 a) (I : SI) (F : SF) (p1 : Int32) (sz : Nat) (Post : Int32 → SI → SF → Prop) (hw : wp_MM_peek p1 I F Post) : Met l y_MM_peek (Cond.code y_MM_peek b_MM_peek 2 (some .int) :: TB) { frames := 0, cells := 0, slots := 0, locals := 0 } (va_Pc [.ref (a 0), .int p1] (mP D a cI cZ I F sz)) (va_Qi (fun r (u : SI × SF) => Post r u.1 u.2) (fun u t => va_P D vwCl (mw a cI cZ u.1 u.2) t.heap) (xA 26 a sz)) 0 0 (xA 26 a sz) := by
  refine Met.ofW (cc := b_MM_peek) (maxL := 2) (ret := (some .int)) (by decide) rfl ?_
  intro p e s m args below meth c s₁ B hml hv
  obtain ⟨rfl, rfl, hP, hK⟩ := hv
  have hx := B.exec
  have hb := B.bytes
  have hr := B.returns
  have hts : ∀ w ∈ TB, w.before _ s = true := fun w h => atoms_spec (ws := Cond.code y_MM_peek b_MM_peek 2 (some .int) :: TB) B.pre w (List.mem_cons_of_mem _ h)
  have hown : s.vm.findClass "CodeJudgeModel" = some m.cls := findClass_of_methodNamed B.named
  have hlocks := B.notSynchronized
  have hl := lv_entry ([.ref (a 0), .int p1]) (n := 2) (Nat.le_of_ble_eq_true rfl)
  rw [lg_entry_eq]
  generalize (lg_sl ([.ref (a 0), .int p1]) ++ List.replicate (2 - (lg_sl ([.ref (a 0), .int p1])).length) Slot.unset).toArray = ls at hl ⊢
  have hl : lv_has ls 2 [(0, .ref (a 0)), (1, .int p1)] := hl
  suffices hM : ∀ (H : Heap) (locs : List Loc), va_P D vwCl (mw a cI cZ I F) H → va_S (xA 26 a s.heap.size) s.heap H locs → W p l e (headSpec (Cond.code y_MM_peek b_MM_peek 2 (some .int) :: TB) { frames := 0, cells := 0, slots := 0, locals := 0 }).room s m ([.ref (a 0), .int p1]).toArray below meth c H locs 0 0 (MQ below (va_Qi (fun r (u : SI × SF) => Post r u.1 u.2) (fun u t => va_P D vwCl (mw a cI cZ u.1 u.2) t.heap) (xA 26 a s.heap.size)) ([.ref (a 0), .int p1]).toArray s 0 0 (xA 26 a s.heap.size)) (F0 m 0 ls []) from hM s.heap [] hP va_S.rf
  clear hP
  intro H locs hP hS
  dsimp only [wp_MM_peek] at hw
  refine lv_aload_n hx hb dMM_peek_0 rfl (lv_at hl 0 rfl) ?_
  refine va_get (D := D) (v := .ref (a 20)) (ci := 8) (C := "CodeJudgeModel") (T := T_MM) (N := 37) hx hb hts in_MM hown hK hP 0 mw_0 rfl 25 (by decide) (hts (.fieldLink "CodeJudgeModel" 68 "CodeJudgeModel" "values" "[I") tw_4_90) (fun _ h9 => h9) rfl dMM_peek_1 ?_
  refine lv_bipush (v := 16) hx hb dMM_peek_4 (by decide) ?_
  refine lv_aload_n hx hb dMM_peek_6 rfl (lv_at hl 0 rfl) ?_
  refine va_get (D := D) (v := .int (I 5)) (ci := 8) (C := "CodeJudgeModel") (T := T_MM) (N := 37) hx hb hts in_MM hown hK hP 0 mw_0 rfl 21 (by decide) (hts (.fieldLink "CodeJudgeModel" 154 "CodeJudgeModel" "frames" "I") tw_4_86) (fun _ h9 => h9) rfl dMM_peek_7 ?_
  refine lv_imul hx hb dMM_peek_10 ?_
  refine lv_bipush (v := 17) hx hb dMM_peek_11 (by decide) ?_
  refine lv_isub hx hb dMM_peek_13 ?_
  refine lv_aload_n hx hb dMM_peek_14 rfl (lv_at hl 0 rfl) ?_
  refine va_get (D := D) (v := .ref (a 19)) (ci := 8) (C := "CodeJudgeModel") (T := T_MM) (N := 37) hx hb hts in_MM hown hK hP 0 mw_0 rfl 24 (by decide) (hts (.fieldLink "CodeJudgeModel" 65 "CodeJudgeModel" "tops" "[I") tw_4_89) (fun _ h9 => h9) rfl dMM_peek_15 ?_
  refine lv_aload_n hx hb dMM_peek_18 rfl (lv_at hl 0 rfl) ?_
  refine va_get (D := D) (v := .int (I 5)) (ci := 8) (C := "CodeJudgeModel") (T := T_MM) (N := 37) hx hb hts in_MM hown hK hP 0 mw_0 rfl 21 (by decide) (hts (.fieldLink "CodeJudgeModel" 154 "CodeJudgeModel" "frames" "I") tw_4_86) (fun _ h9 => h9) rfl dMM_peek_19 ?_
  refine lv_iconst (v := 1) hx hb dMM_peek_22 (by decide) ?_
  refine lv_isub hx hb dMM_peek_23 ?_
  obtain ⟨h1, hw⟩ := hw
  refine va_iald hx hb hK hP 19 0 mw_19 rfl h1 dMM_peek_24 ?_
  refine lv_iadd hx hb dMM_peek_25 ?_
  refine lv_iload_n hx hb dMM_peek_26 rfl (lv_at hl 1 rfl) ?_
  refine lv_isub hx hb dMM_peek_27 ?_
  obtain ⟨h2, hw⟩ := hw
  refine va_iald hx hb hK hP 20 0 mw_20 rfl h2 dMM_peek_28 ?_
  exact W.iret (v := ((F 20) (((((16 : Int32) * (I 5)) - 17) + ((F 19) ((I 5) - 1 : Int32).toNatClampNeg)) - p1 : Int32).toNatClampNeg)) hx hb hr (fun t ht hW => ⟨⟨((F 20) (((((16 : Int32) * (I 5)) - 17) + ((F 19) ((I 5) - 1 : Int32).toNatClampNeg)) - p1 : Int32).toNatClampNeg), (I, F), rfl, hw, by subst ht; exact hP⟩, hS.F ht⟩) hS.2.2 dMM_peek_29
def wp_MM_troubleOf_175 (Post : Int32 → SI → SF → Prop)  (I : SI) (F : SF) : Prop := Post 6 I F
def wp_MM_troubleOf_131 (Post : Int32 → SI → SF → Prop) (x1 : Int32) (I : SI) (F : SF) : Prop := (¬ x1 = 10 → ((¬ x1 = 23 → (Post 0 I F)) ∧ (x1 = 23 → ((¬ (I 5) = 50 → (Post 0 I F)) ∧ ((I 5) = 50 → (Post 7 I F)))))) ∧ (x1 = 10 → (∃ P12 : Int32 → SI → SF → Prop, wp_MM_peek 0 I F P12 ∧ ∀ r12 I12 F12, P12 r12 I12 F12 → ((0 ≤ r12 → (∃ P14 : Int32 → SI → SF → Prop, wp_MM_peek 0 I12 F12 P14 ∧ ∀ r14 I14 F14, P14 r14 I14 F14 → ((((2000 : Int32) - (I14 10)) < r14 → (wp_MM_troubleOf_175 Post I14 F14)) ∧ (¬ ((2000 : Int32) - (I14 10)) < r14 → ((¬ (I14 9) = 200 → (Post 0 I14 F14)) ∧ ((I14 9) = 200 → (wp_MM_troubleOf_175 Post I14 F14))))))) ∧ (¬ 0 ≤ r12 → (Post 5 I12 F12)))))
def wp_MM_troubleOf_99 (Post : Int32 → SI → SF → Prop) (x1 : Int32) (I : SI) (F : SF) : Prop := (¬ x1 = 13 → (wp_MM_troubleOf_131 Post x1 I F)) ∧ (x1 = 13 → (∃ P17 : Int32 → SI → SF → Prop, wp_MM_peek 1 I F P17 ∧ ∀ r17 I17 F17, P17 r17 I17 F17 → (∃ P18 : Int32 → SI → SF → Prop, wp_MM_peek 2 I17 F17 P18 ∧ ∀ r18 I18 F18, P18 r18 I18 F18 → (vp_in r18 201 ∧ (∃ P20 : Int32 → SI → SF → Prop, wp_MM_within r17 0 (((F18 23) r18.toNatClampNeg) - 1) I18 F18 P20 ∧ ∀ r20 I20 F20, P20 r20 I20 F20 → ((¬ r20 = 0 → (wp_MM_troubleOf_131 Post x1 I20 F20)) ∧ (r20 = 0 → (Post 4 I20 F20))))))))
def wp_MM_troubleOf_69 (Post : Int32 → SI → SF → Prop) (x1 : Int32) (I : SI) (F : SF) : Prop := (¬ x1 = 12 → (wp_MM_troubleOf_99 Post x1 I F)) ∧ (x1 = 12 → (∃ P22 : Int32 → SI → SF → Prop, wp_MM_peek 0 I F P22 ∧ ∀ r22 I22 F22, P22 r22 I22 F22 → (∃ P23 : Int32 → SI → SF → Prop, wp_MM_peek 1 I22 F22 P23 ∧ ∀ r23 I23 F23, P23 r23 I23 F23 → (vp_in r23 201 ∧ (∃ P25 : Int32 → SI → SF → Prop, wp_MM_within r22 0 (((F23 23) r23.toNatClampNeg) - 1) I23 F23 P25 ∧ ∀ r25 I25 F25, P25 r25 I25 F25 → ((r25 = 0 → (Post 4 I25 F25)) ∧ (¬ r25 = 0 → (wp_MM_troubleOf_99 Post x1 I25 F25))))))))
def wp_MM_troubleOf_52 (Post : Int32 → SI → SF → Prop) (x1 : Int32) (I : SI) (F : SF) : Prop := (¬ x1 = 13 → (wp_MM_troubleOf_69 Post x1 I F)) ∧ (x1 = 13 → (∃ P27 : Int32 → SI → SF → Prop, wp_MM_peek 2 I F P27 ∧ ∀ r27 I27 F27, P27 r27 I27 F27 → ((¬ r27 = (-1) → (wp_MM_troubleOf_69 Post x1 I27 F27)) ∧ (r27 = (-1) → (Post 3 I27 F27)))))
def wp_MM_troubleOf_37 (Post : Int32 → SI → SF → Prop) (x1 : Int32) (I : SI) (F : SF) : Prop := (¬ x1 = 12 → (wp_MM_troubleOf_52 Post x1 I F)) ∧ (x1 = 12 → (∃ P29 : Int32 → SI → SF → Prop, wp_MM_peek 1 I F P29 ∧ ∀ r29 I29 F29, P29 r29 I29 F29 → ((r29 = (-1) → (Post 3 I29 F29)) ∧ (¬ r29 = (-1) → (wp_MM_troubleOf_52 Post x1 I29 F29)))))
def wp_MM_troubleOf_22 (Post : Int32 → SI → SF → Prop) (x1 : Int32) (I : SI) (F : SF) : Prop := (¬ x1 = 11 → (wp_MM_troubleOf_37 Post x1 I F)) ∧ (x1 = 11 → (∃ P31 : Int32 → SI → SF → Prop, wp_MM_peek 0 I F P31 ∧ ∀ r31 I31 F31, P31 r31 I31 F31 → ((r31 = (-1) → (Post 3 I31 F31)) ∧ (¬ r31 = (-1) → (wp_MM_troubleOf_37 Post x1 I31 F31)))))
def wp_MM_troubleOf_12 (Post : Int32 → SI → SF → Prop) (x1 : Int32) (I : SI) (F : SF) : Prop := ∃ P2 : Int32 → SI → SF → Prop, wp_MM_peek 0 I F P2 ∧ ∀ r2 I2 F2, P2 r2 I2 F2 → ((¬ r2 = 0 → (wp_MM_troubleOf_22 Post x1 I2 F2)) ∧ (r2 = 0 → (Post 2 I2 F2)))
def wp_MM_troubleOf (p1 : Int32) (I : SI) (F : SF) (Post : Int32 → SI → SF → Prop) : Prop := (p1 = 8 → (wp_MM_troubleOf_12 Post p1 I F)) ∧ (¬ p1 = 8 → ((¬ p1 = 9 → (wp_MM_troubleOf_22 Post p1 I F)) ∧ (p1 = 9 → (wp_MM_troubleOf_12 Post p1 I F))))
set_option maxHeartbeats 4000000 in
set_option maxRecDepth 100000 in
theorem c_MM_troubleOf (l : Launch) (D : va_G) (a : Nat → Nat) (cI cZ : ClassId) (hJ : xJ 26 a) (I : SI) (F : SF) (p1 : Int32) (sz : Nat) (Post : Int32 → SI → SF → Prop) (hw : wp_MM_troubleOf p1 I F Post) : Met l y_MM_troubleOf (Cond.code y_MM_troubleOf b_MM_troubleOf 2 (some .int) :: TB) { frames := 1, cells := 0, slots := 0, locals := 22 } (va_Pc [.ref (a 0), .int p1] (mP D a cI cZ I F sz)) (va_Qi (fun r (u : SI × SF) => Post r u.1 u.2) (fun u t => va_P D vwCl (mw a cI cZ u.1 u.2) t.heap) (xA 26 a sz)) 0 0 (xA 26 a sz) := by
  refine Met.ofW (cc := b_MM_troubleOf) (maxL := 2) (ret := (some .int)) (by decide) rfl ?_
  intro p e s m args below meth c s₁ B hml hv
  obtain ⟨rfl, rfl, hP, hK⟩ := hv
  have hx := B.exec
  have hb := B.bytes
  have hr := B.returns
  have hts : ∀ w ∈ TB, w.before _ s = true := fun w h => atoms_spec (ws := Cond.code y_MM_troubleOf b_MM_troubleOf 2 (some .int) :: TB) B.pre w (List.mem_cons_of_mem _ h)
  have hown : s.vm.findClass "CodeJudgeModel" = some m.cls := findClass_of_methodNamed B.named
  have hlocks := B.notSynchronized
  have hl := lv_entry ([.ref (a 0), .int p1]) (n := 2) (Nat.le_of_ble_eq_true rfl)
  rw [lg_entry_eq]
  generalize (lg_sl ([.ref (a 0), .int p1]) ++ List.replicate (2 - (lg_sl ([.ref (a 0), .int p1])).length) Slot.unset).toArray = ls at hl ⊢
  have hl : lv_has ls 2 [(0, .ref (a 0)), (1, .int p1)] := hl
  obtain ⟨Q, hQ⟩ : ∃ Q, Q = MQ below (va_Qi (fun r (u : SI × SF) => Post r u.1 u.2) (fun u t => va_P D vwCl (mw a cI cZ u.1 u.2) t.heap) (xA 26 a s.heap.size)) ([.ref (a 0), .int p1]).toArray s 0 0 (xA 26 a s.heap.size) := ⟨_, rfl⟩
  rw [← hQ]
  have J175 : ∀ (I : SI) (F : SF) (H : Heap) (locs : List Loc) (ls : Array Slot), lv_has ls 2 [] → va_P D vwCl (mw a cI cZ I F) H → va_S (xA 26 a s.heap.size) s.heap H locs → wp_MM_troubleOf_175 Post I F → W p l e (headSpec (Cond.code y_MM_troubleOf b_MM_troubleOf 2 (some .int) :: TB) { frames := 1, cells := 0, slots := 0, locals := 22 }).room s m ([.ref (a 0), .int p1]).toArray below meth c H locs 0 0 Q (F0 m 175 ls []) := by
    intro I F H locs ls hl hP hS hw
    dsimp only [wp_MM_troubleOf_175] at hw
    refine lv_bipush (v := 6) hx hb dMM_troubleOf_175 (by decide) ?_
    refine lv_goto (tgt := 181) hx hb dMM_troubleOf_177 (by decide) ?_
    rw [hQ]
    exact W.iret (v := 6) hx hb hr (fun t ht hW => ⟨⟨6, (I, F), rfl, hw, by subst ht; exact hP⟩, hS.F ht⟩) hS.2.2 dMM_troubleOf_181
  have J131 : ∀ (x1 : Int32) (I : SI) (F : SF) (H : Heap) (locs : List Loc) (ls : Array Slot), lv_has ls 2 [(0, .ref (a 0)), (1, .int x1)] → va_P D vwCl (mw a cI cZ I F) H → va_S (xA 26 a s.heap.size) s.heap H locs → wp_MM_troubleOf_131 Post x1 I F → W p l e (headSpec (Cond.code y_MM_troubleOf b_MM_troubleOf 2 (some .int) :: TB) { frames := 1, cells := 0, slots := 0, locals := 22 }).room s m ([.ref (a 0), .int p1]).toArray below meth c H locs 0 0 Q (F0 m 131 ls []) := by
    intro x1 I F H locs ls hl hP hS hw
    dsimp only [wp_MM_troubleOf_131] at hw
    refine lv_iload_n hx hb dMM_troubleOf_131 rfl (lv_at hl 1 rfl) ?_
    refine lv_bipush (v := 10) hx hb dMM_troubleOf_132 (by decide) ?_
    refine lv_icmp_ne (tgt := 182) hx hb dMM_troubleOf_134 (by decide) (fun h9 => ?_) (fun h9 => ?_)
    · have hw := hw.1 h9
      refine lv_iload_n hx hb dMM_troubleOf_182 rfl (lv_at hl 1 rfl) ?_
      refine lv_bipush (v := 23) hx hb dMM_troubleOf_183 (by decide) ?_
      refine lv_icmp_ne (tgt := 202) hx hb dMM_troubleOf_185 (by decide) (fun h10 => ?_) (fun h10 => ?_)
      · have hw := hw.1 h10
        refine lv_iconst (v := 0) hx hb dMM_troubleOf_202 (by decide) ?_
        rw [hQ]
        exact W.iret (v := 0) hx hb hr (fun t ht hW => ⟨⟨0, (I, F), rfl, hw, by subst ht; exact hP⟩, hS.F ht⟩) hS.2.2 dMM_troubleOf_203
      · have hw := hw.2 h10
        refine lv_aload_n hx hb dMM_troubleOf_188 rfl (lv_at hl 0 rfl) ?_
        refine va_get (D := D) (v := .int (I 5)) (ci := 8) (C := "CodeJudgeModel") (T := T_MM) (N := 37) hx hb hts in_MM hown hK hP 0 mw_0 rfl 21 (by decide) (hts (.fieldLink "CodeJudgeModel" 154 "CodeJudgeModel" "frames" "I") tw_4_86) (fun _ h9 => h9) rfl dMM_troubleOf_189 ?_
        refine lv_bipush (v := 50) hx hb dMM_troubleOf_192 (by decide) ?_
        refine lv_icmp_ne (tgt := 202) hx hb dMM_troubleOf_194 (by decide) (fun h11 => ?_) (fun h11 => ?_)
        · have hw := hw.1 h11
          refine lv_iconst (v := 0) hx hb dMM_troubleOf_202 (by decide) ?_
          rw [hQ]
          exact W.iret (v := 0) hx hb hr (fun t ht hW => ⟨⟨0, (I, F), rfl, hw, by subst ht; exact hP⟩, hS.F ht⟩) hS.2.2 dMM_troubleOf_203
        · have hw := hw.2 h11
          refine lv_bipush (v := 7) hx hb dMM_troubleOf_197 (by decide) ?_
          refine lv_goto (tgt := 203) hx hb dMM_troubleOf_199 (by decide) ?_
          rw [hQ]
          exact W.iret (v := 7) hx hb hr (fun t ht hW => ⟨⟨7, (I, F), rfl, hw, by subst ht; exact hP⟩, hS.F ht⟩) hS.2.2 dMM_troubleOf_203
    · have hw := hw.2 h9
      refine lv_aload_n hx hb dMM_troubleOf_137 rfl (lv_at hl 0 rfl) ?_
      refine lv_iconst (v := 0) hx hb dMM_troubleOf_138 (by decide) ?_
      obtain ⟨P12, hc12, hw⟩ := hw
      refine mc_i (va_runV (As := [.int 0]) (rest := []) ⟨hx, hb, hml, hown, hts⟩ (c_MM_peek l D a cI cZ hJ I F 0 H.size P12 hc12) (cwV 1 hts (tb_V (C := "CodeJudgeModel") wc_MM_peek tw_5_47 tw_5_49 tw_0_37 tw_1_9) rfl rfl rfl (by decide +kernel) ⟨Nat.le_of_ble_eq_true rfl, Nat.le_of_ble_eq_true rfl⟩) ⟨mP_bl, va_recv hK hP rfl mw_0, mP_at hP hK⟩ rfl rfl hl.1 rfl (lv_room (Nat.le_of_ble_eq_true rfl)) dMM_troubleOf_139 ⟨Nat.le_of_ble_eq_true rfl, Nat.le_of_ble_eq_true rfl⟩) hS (fun r12 I12 F12 H locs hP hp12 hS => ?_)
      have hw := hw r12 I12 F12 hp12
      refine lv_if_ge (tgt := 149) hx hb dMM_troubleOf_142 (by decide) (fun h13 => ?_) (fun h13 => ?_)
      · have hw := hw.1 h13
        refine lv_aload_n hx hb dMM_troubleOf_149 rfl (lv_at hl 0 rfl) ?_
        refine lv_iconst (v := 0) hx hb dMM_troubleOf_150 (by decide) ?_
        obtain ⟨P14, hc14, hw⟩ := hw
        refine mc_i (va_runV (As := [.int 0]) (rest := []) ⟨hx, hb, hml, hown, hts⟩ (c_MM_peek l D a cI cZ hJ I12 F12 0 H.size P14 hc14) (cwV 1 hts (tb_V (C := "CodeJudgeModel") wc_MM_peek tw_5_47 tw_5_49 tw_0_37 tw_1_9) rfl rfl rfl (by decide +kernel) ⟨Nat.le_of_ble_eq_true rfl, Nat.le_of_ble_eq_true rfl⟩) ⟨mP_bl, va_recv hK hP rfl mw_0, mP_at hP hK⟩ rfl rfl hl.1 rfl (lv_room (Nat.le_of_ble_eq_true rfl)) dMM_troubleOf_151 ⟨Nat.le_of_ble_eq_true rfl, Nat.le_of_ble_eq_true rfl⟩) hS (fun r14 I14 F14 H locs hP hp14 hS => ?_)
        have hw := hw r14 I14 F14 hp14
        refine lv_sipush (v := 2000) hx hb dMM_troubleOf_154 (by decide) ?_
        refine lv_aload_n hx hb dMM_troubleOf_157 rfl (lv_at hl 0 rfl) ?_
        refine va_get (D := D) (v := .int (I14 10)) (ci := 8) (C := "CodeJudgeModel") (T := T_MM) (N := 37) hx hb hts in_MM hown hK hP 0 mw_0 rfl 31 (by decide) (hts (.fieldLink "CodeJudgeModel" 151 "CodeJudgeModel" "cells" "I") tw_4_96) (fun _ h9 => h9) rfl dMM_troubleOf_158 ?_
        refine lv_isub hx hb dMM_troubleOf_161 ?_
        refine lv_icmp_gt (tgt := 175) hx hb dMM_troubleOf_162 (by decide) (fun h15 => ?_) (fun h15 => ?_)
        · have hw := hw.1 h15
          exact J175 I14 F14 H locs ls (lv_sub hl [] rfl) hP hS hw
        · have hw := hw.2 h15
          refine lv_aload_n hx hb dMM_troubleOf_165 rfl (lv_at hl 0 rfl) ?_
          refine va_get (D := D) (v := .int (I14 9)) (ci := 8) (C := "CodeJudgeModel") (T := T_MM) (N := 37) hx hb hts in_MM hown hK hP 0 mw_0 rfl 30 (by decide) (hts (.fieldLink "CodeJudgeModel" 148 "CodeJudgeModel" "made" "I") tw_4_95) (fun _ h9 => h9) rfl dMM_troubleOf_166 ?_
          refine lv_sipush (v := 200) hx hb dMM_troubleOf_169 (by decide) ?_
          refine lv_icmp_ne (tgt := 180) hx hb dMM_troubleOf_172 (by decide) (fun h16 => ?_) (fun h16 => ?_)
          · have hw := hw.1 h16
            refine lv_iconst (v := 0) hx hb dMM_troubleOf_180 (by decide) ?_
            rw [hQ]
            exact W.iret (v := 0) hx hb hr (fun t ht hW => ⟨⟨0, (I14, F14), rfl, hw, by subst ht; exact hP⟩, hS.F ht⟩) hS.2.2 dMM_troubleOf_181
          · have hw := hw.2 h16
            exact J175 I14 F14 H locs ls (lv_sub hl [] rfl) hP hS hw
      · have hw := hw.2 h13
        refine lv_iconst (v := 5) hx hb dMM_troubleOf_145 (by decide) ?_
        refine lv_goto (tgt := 181) hx hb dMM_troubleOf_146 (by decide) ?_
        rw [hQ]
        exact W.iret (v := 5) hx hb hr (fun t ht hW => ⟨⟨5, (I12, F12), rfl, hw, by subst ht; exact hP⟩, hS.F ht⟩) hS.2.2 dMM_troubleOf_181
  have J99 : ∀ (x1 : Int32) (I : SI) (F : SF) (H : Heap) (locs : List Loc) (ls : Array Slot), lv_has ls 2 [(0, .ref (a 0)), (1, .int x1)] → va_P D vwCl (mw a cI cZ I F) H → va_S (xA 26 a s.heap.size) s.heap H locs → wp_MM_troubleOf_99 Post x1 I F → W p l e (headSpec (Cond.code y_MM_troubleOf b_MM_troubleOf 2 (some .int) :: TB) { frames := 1, cells := 0, slots := 0, locals := 22 }).room s m ([.ref (a 0), .int p1]).toArray below meth c H locs 0 0 Q (F0 m 99 ls []) := by
    intro x1 I F H locs ls hl hP hS hw
    dsimp only [wp_MM_troubleOf_99] at hw
    refine lv_iload_n hx hb dMM_troubleOf_99 rfl (lv_at hl 1 rfl) ?_
    refine lv_bipush (v := 13) hx hb dMM_troubleOf_100 (by decide) ?_
    refine lv_icmp_ne (tgt := 131) hx hb dMM_troubleOf_102 (by decide) (fun h8 => ?_) (fun h8 => ?_)
    · have hw := hw.1 h8
      exact J131 x1 I F H locs ls (lv_sub hl [0, 1] rfl) hP hS hw
    · have hw := hw.2 h8
      refine lv_aload_n hx hb dMM_troubleOf_105 rfl (lv_at hl 0 rfl) ?_
      refine lv_iconst (v := 1) hx hb dMM_troubleOf_106 (by decide) ?_
      obtain ⟨P17, hc17, hw⟩ := hw
      refine mc_i (va_runV (As := [.int 1]) (rest := []) ⟨hx, hb, hml, hown, hts⟩ (c_MM_peek l D a cI cZ hJ I F 1 H.size P17 hc17) (cwV 1 hts (tb_V (C := "CodeJudgeModel") wc_MM_peek tw_5_47 tw_5_49 tw_0_37 tw_1_9) rfl rfl rfl (by decide +kernel) ⟨Nat.le_of_ble_eq_true rfl, Nat.le_of_ble_eq_true rfl⟩) ⟨mP_bl, va_recv hK hP rfl mw_0, mP_at hP hK⟩ rfl rfl hl.1 rfl (lv_room (Nat.le_of_ble_eq_true rfl)) dMM_troubleOf_107 ⟨Nat.le_of_ble_eq_true rfl, Nat.le_of_ble_eq_true rfl⟩) hS (fun r17 I17 F17 H locs hP hp17 hS => ?_)
      have hw := hw r17 I17 F17 hp17
      refine lv_iconst (v := 0) hx hb dMM_troubleOf_110 (by decide) ?_
      refine lv_aload_n hx hb dMM_troubleOf_111 rfl (lv_at hl 0 rfl) ?_
      refine va_get (D := D) (v := .ref (a 23)) (ci := 8) (C := "CodeJudgeModel") (T := T_MM) (N := 37) hx hb hts in_MM hown hK hP 0 mw_0 rfl 33 (by decide) (hts (.fieldLink "CodeJudgeModel" 77 "CodeJudgeModel" "lengths" "[I") tw_4_98) (fun _ h9 => h9) rfl dMM_troubleOf_112 ?_
      refine lv_aload_n hx hb dMM_troubleOf_115 rfl (lv_at hl 0 rfl) ?_
      refine lv_iconst (v := 2) hx hb dMM_troubleOf_116 (by decide) ?_
      obtain ⟨P18, hc18, hw⟩ := hw
      refine mc_i (va_runV (As := [.int 2]) (rest := [.ref (a 23), .int 0, .int r17]) ⟨hx, hb, hml, hown, hts⟩ (c_MM_peek l D a cI cZ hJ I17 F17 2 H.size P18 hc18) (cwV 1 hts (tb_V (C := "CodeJudgeModel") wc_MM_peek tw_5_47 tw_5_49 tw_0_37 tw_1_9) rfl rfl rfl (by decide +kernel) ⟨Nat.le_of_ble_eq_true rfl, Nat.le_of_ble_eq_true rfl⟩) ⟨mP_bl, va_recv hK hP rfl mw_0, mP_at hP hK⟩ rfl rfl hl.1 rfl (lv_room (Nat.le_of_ble_eq_true rfl)) dMM_troubleOf_117 ⟨Nat.le_of_ble_eq_true rfl, Nat.le_of_ble_eq_true rfl⟩) hS (fun r18 I18 F18 H locs hP hp18 hS => ?_)
      have hw := hw r18 I18 F18 hp18
      obtain ⟨h19, hw⟩ := hw
      refine va_iald hx hb hK hP 23 0 mw_23 rfl h19 dMM_troubleOf_120 ?_
      refine lv_iconst (v := 1) hx hb dMM_troubleOf_121 (by decide) ?_
      refine lv_isub hx hb dMM_troubleOf_122 ?_
      obtain ⟨P20, hc20, hw⟩ := hw
      refine mc_i (va_runS (As := [.int r17, .int 0, .int (((F18 23) r18.toNatClampNeg) - 1)]) (rest := []) ⟨hx, hb, hml, hown, hts⟩ (c_MM_within l D a cI cZ hJ I18 F18 r17 0 (((F18 23) r18.toNatClampNeg) - 1) H.size P20 hc20) (va_cwS 3 hts (tb_S wc_MM_within tw_4_185 tw_4_186 tw_1_9) rfl rfl rfl (by decide +kernel) ⟨Nat.le_of_ble_eq_true rfl, Nat.le_of_ble_eq_true rfl⟩) ⟨mP_bl, mP_at hP hK⟩ rfl rfl hl.1 rfl (lv_room (Nat.le_of_ble_eq_true rfl)) dMM_troubleOf_123 ⟨Nat.le_of_ble_eq_true rfl, Nat.le_of_ble_eq_true rfl⟩) hS (fun r20 I20 F20 H locs hP hp20 hS => ?_)
      have hw := hw r20 I20 F20 hp20
      refine lv_if_ne (tgt := 131) hx hb dMM_troubleOf_126 (by decide) (fun h21 => ?_) (fun h21 => ?_)
      · have hw := hw.1 h21
        exact J131 x1 I20 F20 H locs ls (lv_sub hl [0, 1] rfl) hP hS hw
      · have hw := hw.2 h21
        refine lv_iconst (v := 4) hx hb dMM_troubleOf_129 (by decide) ?_
        rw [hQ]
        exact W.iret (v := 4) hx hb hr (fun t ht hW => ⟨⟨4, (I20, F20), rfl, hw, by subst ht; exact hP⟩, hS.F ht⟩) hS.2.2 dMM_troubleOf_130
  have J69 : ∀ (x1 : Int32) (I : SI) (F : SF) (H : Heap) (locs : List Loc) (ls : Array Slot), lv_has ls 2 [(0, .ref (a 0)), (1, .int x1)] → va_P D vwCl (mw a cI cZ I F) H → va_S (xA 26 a s.heap.size) s.heap H locs → wp_MM_troubleOf_69 Post x1 I F → W p l e (headSpec (Cond.code y_MM_troubleOf b_MM_troubleOf 2 (some .int) :: TB) { frames := 1, cells := 0, slots := 0, locals := 22 }).room s m ([.ref (a 0), .int p1]).toArray below meth c H locs 0 0 Q (F0 m 69 ls []) := by
    intro x1 I F H locs ls hl hP hS hw
    dsimp only [wp_MM_troubleOf_69] at hw
    refine lv_iload_n hx hb dMM_troubleOf_69 rfl (lv_at hl 1 rfl) ?_
    refine lv_bipush (v := 12) hx hb dMM_troubleOf_70 (by decide) ?_
    refine lv_icmp_ne (tgt := 99) hx hb dMM_troubleOf_72 (by decide) (fun h7 => ?_) (fun h7 => ?_)
    · have hw := hw.1 h7
      exact J99 x1 I F H locs ls (lv_sub hl [0, 1] rfl) hP hS hw
    · have hw := hw.2 h7
      refine lv_aload_n hx hb dMM_troubleOf_75 rfl (lv_at hl 0 rfl) ?_
      refine lv_iconst (v := 0) hx hb dMM_troubleOf_76 (by decide) ?_
      obtain ⟨P22, hc22, hw⟩ := hw
      refine mc_i (va_runV (As := [.int 0]) (rest := []) ⟨hx, hb, hml, hown, hts⟩ (c_MM_peek l D a cI cZ hJ I F 0 H.size P22 hc22) (cwV 1 hts (tb_V (C := "CodeJudgeModel") wc_MM_peek tw_5_47 tw_5_49 tw_0_37 tw_1_9) rfl rfl rfl (by decide +kernel) ⟨Nat.le_of_ble_eq_true rfl, Nat.le_of_ble_eq_true rfl⟩) ⟨mP_bl, va_recv hK hP rfl mw_0, mP_at hP hK⟩ rfl rfl hl.1 rfl (lv_room (Nat.le_of_ble_eq_true rfl)) dMM_troubleOf_77 ⟨Nat.le_of_ble_eq_true rfl, Nat.le_of_ble_eq_true rfl⟩) hS (fun r22 I22 F22 H locs hP hp22 hS => ?_)
      have hw := hw r22 I22 F22 hp22
      refine lv_iconst (v := 0) hx hb dMM_troubleOf_80 (by decide) ?_
      refine lv_aload_n hx hb dMM_troubleOf_81 rfl (lv_at hl 0 rfl) ?_
      refine va_get (D := D) (v := .ref (a 23)) (ci := 8) (C := "CodeJudgeModel") (T := T_MM) (N := 37) hx hb hts in_MM hown hK hP 0 mw_0 rfl 33 (by decide) (hts (.fieldLink "CodeJudgeModel" 77 "CodeJudgeModel" "lengths" "[I") tw_4_98) (fun _ h9 => h9) rfl dMM_troubleOf_82 ?_
      refine lv_aload_n hx hb dMM_troubleOf_85 rfl (lv_at hl 0 rfl) ?_
      refine lv_iconst (v := 1) hx hb dMM_troubleOf_86 (by decide) ?_
      obtain ⟨P23, hc23, hw⟩ := hw
      refine mc_i (va_runV (As := [.int 1]) (rest := [.ref (a 23), .int 0, .int r22]) ⟨hx, hb, hml, hown, hts⟩ (c_MM_peek l D a cI cZ hJ I22 F22 1 H.size P23 hc23) (cwV 1 hts (tb_V (C := "CodeJudgeModel") wc_MM_peek tw_5_47 tw_5_49 tw_0_37 tw_1_9) rfl rfl rfl (by decide +kernel) ⟨Nat.le_of_ble_eq_true rfl, Nat.le_of_ble_eq_true rfl⟩) ⟨mP_bl, va_recv hK hP rfl mw_0, mP_at hP hK⟩ rfl rfl hl.1 rfl (lv_room (Nat.le_of_ble_eq_true rfl)) dMM_troubleOf_87 ⟨Nat.le_of_ble_eq_true rfl, Nat.le_of_ble_eq_true rfl⟩) hS (fun r23 I23 F23 H locs hP hp23 hS => ?_)
      have hw := hw r23 I23 F23 hp23
      obtain ⟨h24, hw⟩ := hw
      refine va_iald hx hb hK hP 23 0 mw_23 rfl h24 dMM_troubleOf_90 ?_
      refine lv_iconst (v := 1) hx hb dMM_troubleOf_91 (by decide) ?_
      refine lv_isub hx hb dMM_troubleOf_92 ?_
      obtain ⟨P25, hc25, hw⟩ := hw
      refine mc_i (va_runS (As := [.int r22, .int 0, .int (((F23 23) r23.toNatClampNeg) - 1)]) (rest := []) ⟨hx, hb, hml, hown, hts⟩ (c_MM_within l D a cI cZ hJ I23 F23 r22 0 (((F23 23) r23.toNatClampNeg) - 1) H.size P25 hc25) (va_cwS 3 hts (tb_S wc_MM_within tw_4_185 tw_4_186 tw_1_9) rfl rfl rfl (by decide +kernel) ⟨Nat.le_of_ble_eq_true rfl, Nat.le_of_ble_eq_true rfl⟩) ⟨mP_bl, mP_at hP hK⟩ rfl rfl hl.1 rfl (lv_room (Nat.le_of_ble_eq_true rfl)) dMM_troubleOf_93 ⟨Nat.le_of_ble_eq_true rfl, Nat.le_of_ble_eq_true rfl⟩) hS (fun r25 I25 F25 H locs hP hp25 hS => ?_)
      have hw := hw r25 I25 F25 hp25
      refine lv_if_eq (tgt := 129) hx hb dMM_troubleOf_96 (by decide) (fun h26 => ?_) (fun h26 => ?_)
      · have hw := hw.1 h26
        refine lv_iconst (v := 4) hx hb dMM_troubleOf_129 (by decide) ?_
        rw [hQ]
        exact W.iret (v := 4) hx hb hr (fun t ht hW => ⟨⟨4, (I25, F25), rfl, hw, by subst ht; exact hP⟩, hS.F ht⟩) hS.2.2 dMM_troubleOf_130
      · have hw := hw.2 h26
        exact J99 x1 I25 F25 H locs ls (lv_sub hl [0, 1] rfl) hP hS hw
  have J52 : ∀ (x1 : Int32) (I : SI) (F : SF) (H : Heap) (locs : List Loc) (ls : Array Slot), lv_has ls 2 [(0, .ref (a 0)), (1, .int x1)] → va_P D vwCl (mw a cI cZ I F) H → va_S (xA 26 a s.heap.size) s.heap H locs → wp_MM_troubleOf_52 Post x1 I F → W p l e (headSpec (Cond.code y_MM_troubleOf b_MM_troubleOf 2 (some .int) :: TB) { frames := 1, cells := 0, slots := 0, locals := 22 }).room s m ([.ref (a 0), .int p1]).toArray below meth c H locs 0 0 Q (F0 m 52 ls []) := by
    intro x1 I F H locs ls hl hP hS hw
    dsimp only [wp_MM_troubleOf_52] at hw
    refine lv_iload_n hx hb dMM_troubleOf_52 rfl (lv_at hl 1 rfl) ?_
    refine lv_bipush (v := 13) hx hb dMM_troubleOf_53 (by decide) ?_
    refine lv_icmp_ne (tgt := 69) hx hb dMM_troubleOf_55 (by decide) (fun h6 => ?_) (fun h6 => ?_)
    · have hw := hw.1 h6
      exact J69 x1 I F H locs ls (lv_sub hl [0, 1] rfl) hP hS hw
    · have hw := hw.2 h6
      refine lv_aload_n hx hb dMM_troubleOf_58 rfl (lv_at hl 0 rfl) ?_
      refine lv_iconst (v := 2) hx hb dMM_troubleOf_59 (by decide) ?_
      obtain ⟨P27, hc27, hw⟩ := hw
      refine mc_i (va_runV (As := [.int 2]) (rest := []) ⟨hx, hb, hml, hown, hts⟩ (c_MM_peek l D a cI cZ hJ I F 2 H.size P27 hc27) (cwV 1 hts (tb_V (C := "CodeJudgeModel") wc_MM_peek tw_5_47 tw_5_49 tw_0_37 tw_1_9) rfl rfl rfl (by decide +kernel) ⟨Nat.le_of_ble_eq_true rfl, Nat.le_of_ble_eq_true rfl⟩) ⟨mP_bl, va_recv hK hP rfl mw_0, mP_at hP hK⟩ rfl rfl hl.1 rfl (lv_room (Nat.le_of_ble_eq_true rfl)) dMM_troubleOf_60 ⟨Nat.le_of_ble_eq_true rfl, Nat.le_of_ble_eq_true rfl⟩) hS (fun r27 I27 F27 H locs hP hp27 hS => ?_)
      have hw := hw r27 I27 F27 hp27
      refine lv_iconst (v := (-1)) hx hb dMM_troubleOf_63 (by decide) ?_
      refine lv_icmp_ne (tgt := 69) hx hb dMM_troubleOf_64 (by decide) (fun h28 => ?_) (fun h28 => ?_)
      · have hw := hw.1 h28
        exact J69 x1 I27 F27 H locs ls (lv_sub hl [0, 1] rfl) hP hS hw
      · have hw := hw.2 h28
        refine lv_iconst (v := 3) hx hb dMM_troubleOf_67 (by decide) ?_
        rw [hQ]
        exact W.iret (v := 3) hx hb hr (fun t ht hW => ⟨⟨3, (I27, F27), rfl, hw, by subst ht; exact hP⟩, hS.F ht⟩) hS.2.2 dMM_troubleOf_68
  have J37 : ∀ (x1 : Int32) (I : SI) (F : SF) (H : Heap) (locs : List Loc) (ls : Array Slot), lv_has ls 2 [(0, .ref (a 0)), (1, .int x1)] → va_P D vwCl (mw a cI cZ I F) H → va_S (xA 26 a s.heap.size) s.heap H locs → wp_MM_troubleOf_37 Post x1 I F → W p l e (headSpec (Cond.code y_MM_troubleOf b_MM_troubleOf 2 (some .int) :: TB) { frames := 1, cells := 0, slots := 0, locals := 22 }).room s m ([.ref (a 0), .int p1]).toArray below meth c H locs 0 0 Q (F0 m 37 ls []) := by
    intro x1 I F H locs ls hl hP hS hw
    dsimp only [wp_MM_troubleOf_37] at hw
    refine lv_iload_n hx hb dMM_troubleOf_37 rfl (lv_at hl 1 rfl) ?_
    refine lv_bipush (v := 12) hx hb dMM_troubleOf_38 (by decide) ?_
    refine lv_icmp_ne (tgt := 52) hx hb dMM_troubleOf_40 (by decide) (fun h5 => ?_) (fun h5 => ?_)
    · have hw := hw.1 h5
      exact J52 x1 I F H locs ls (lv_sub hl [0, 1] rfl) hP hS hw
    · have hw := hw.2 h5
      refine lv_aload_n hx hb dMM_troubleOf_43 rfl (lv_at hl 0 rfl) ?_
      refine lv_iconst (v := 1) hx hb dMM_troubleOf_44 (by decide) ?_
      obtain ⟨P29, hc29, hw⟩ := hw
      refine mc_i (va_runV (As := [.int 1]) (rest := []) ⟨hx, hb, hml, hown, hts⟩ (c_MM_peek l D a cI cZ hJ I F 1 H.size P29 hc29) (cwV 1 hts (tb_V (C := "CodeJudgeModel") wc_MM_peek tw_5_47 tw_5_49 tw_0_37 tw_1_9) rfl rfl rfl (by decide +kernel) ⟨Nat.le_of_ble_eq_true rfl, Nat.le_of_ble_eq_true rfl⟩) ⟨mP_bl, va_recv hK hP rfl mw_0, mP_at hP hK⟩ rfl rfl hl.1 rfl (lv_room (Nat.le_of_ble_eq_true rfl)) dMM_troubleOf_45 ⟨Nat.le_of_ble_eq_true rfl, Nat.le_of_ble_eq_true rfl⟩) hS (fun r29 I29 F29 H locs hP hp29 hS => ?_)
      have hw := hw r29 I29 F29 hp29
      refine lv_iconst (v := (-1)) hx hb dMM_troubleOf_48 (by decide) ?_
      refine lv_icmp_eq (tgt := 67) hx hb dMM_troubleOf_49 (by decide) (fun h30 => ?_) (fun h30 => ?_)
      · have hw := hw.1 h30
        refine lv_iconst (v := 3) hx hb dMM_troubleOf_67 (by decide) ?_
        rw [hQ]
        exact W.iret (v := 3) hx hb hr (fun t ht hW => ⟨⟨3, (I29, F29), rfl, hw, by subst ht; exact hP⟩, hS.F ht⟩) hS.2.2 dMM_troubleOf_68
      · have hw := hw.2 h30
        exact J52 x1 I29 F29 H locs ls (lv_sub hl [0, 1] rfl) hP hS hw
  have J22 : ∀ (x1 : Int32) (I : SI) (F : SF) (H : Heap) (locs : List Loc) (ls : Array Slot), lv_has ls 2 [(0, .ref (a 0)), (1, .int x1)] → va_P D vwCl (mw a cI cZ I F) H → va_S (xA 26 a s.heap.size) s.heap H locs → wp_MM_troubleOf_22 Post x1 I F → W p l e (headSpec (Cond.code y_MM_troubleOf b_MM_troubleOf 2 (some .int) :: TB) { frames := 1, cells := 0, slots := 0, locals := 22 }).room s m ([.ref (a 0), .int p1]).toArray below meth c H locs 0 0 Q (F0 m 22 ls []) := by
    intro x1 I F H locs ls hl hP hS hw
    dsimp only [wp_MM_troubleOf_22] at hw
    refine lv_iload_n hx hb dMM_troubleOf_22 rfl (lv_at hl 1 rfl) ?_
    refine lv_bipush (v := 11) hx hb dMM_troubleOf_23 (by decide) ?_
    refine lv_icmp_ne (tgt := 37) hx hb dMM_troubleOf_25 (by decide) (fun h4 => ?_) (fun h4 => ?_)
    · have hw := hw.1 h4
      exact J37 x1 I F H locs ls (lv_sub hl [0, 1] rfl) hP hS hw
    · have hw := hw.2 h4
      refine lv_aload_n hx hb dMM_troubleOf_28 rfl (lv_at hl 0 rfl) ?_
      refine lv_iconst (v := 0) hx hb dMM_troubleOf_29 (by decide) ?_
      obtain ⟨P31, hc31, hw⟩ := hw
      refine mc_i (va_runV (As := [.int 0]) (rest := []) ⟨hx, hb, hml, hown, hts⟩ (c_MM_peek l D a cI cZ hJ I F 0 H.size P31 hc31) (cwV 1 hts (tb_V (C := "CodeJudgeModel") wc_MM_peek tw_5_47 tw_5_49 tw_0_37 tw_1_9) rfl rfl rfl (by decide +kernel) ⟨Nat.le_of_ble_eq_true rfl, Nat.le_of_ble_eq_true rfl⟩) ⟨mP_bl, va_recv hK hP rfl mw_0, mP_at hP hK⟩ rfl rfl hl.1 rfl (lv_room (Nat.le_of_ble_eq_true rfl)) dMM_troubleOf_30 ⟨Nat.le_of_ble_eq_true rfl, Nat.le_of_ble_eq_true rfl⟩) hS (fun r31 I31 F31 H locs hP hp31 hS => ?_)
      have hw := hw r31 I31 F31 hp31
      refine lv_iconst (v := (-1)) hx hb dMM_troubleOf_33 (by decide) ?_
      refine lv_icmp_eq (tgt := 67) hx hb dMM_troubleOf_34 (by decide) (fun h32 => ?_) (fun h32 => ?_)
      · have hw := hw.1 h32
        refine lv_iconst (v := 3) hx hb dMM_troubleOf_67 (by decide) ?_
        rw [hQ]
        exact W.iret (v := 3) hx hb hr (fun t ht hW => ⟨⟨3, (I31, F31), rfl, hw, by subst ht; exact hP⟩, hS.F ht⟩) hS.2.2 dMM_troubleOf_68
      · have hw := hw.2 h32
        exact J37 x1 I31 F31 H locs ls (lv_sub hl [0, 1] rfl) hP hS hw
  have J12 : ∀ (x1 : Int32) (I : SI) (F : SF) (H : Heap) (locs : List Loc) (ls : Array Slot), lv_has ls 2 [(0, .ref (a 0)), (1, .int x1)] → va_P D vwCl (mw a cI cZ I F) H → va_S (xA 26 a s.heap.size) s.heap H locs → wp_MM_troubleOf_12 Post x1 I F → W p l e (headSpec (Cond.code y_MM_troubleOf b_MM_troubleOf 2 (some .int) :: TB) { frames := 1, cells := 0, slots := 0, locals := 22 }).room s m ([.ref (a 0), .int p1]).toArray below meth c H locs 0 0 Q (F0 m 12 ls []) := by
    intro x1 I F H locs ls hl hP hS hw
    dsimp only [wp_MM_troubleOf_12] at hw
    refine lv_aload_n hx hb dMM_troubleOf_12 rfl (lv_at hl 0 rfl) ?_
    refine lv_iconst (v := 0) hx hb dMM_troubleOf_13 (by decide) ?_
    obtain ⟨P2, hc2, hw⟩ := hw
    refine mc_i (va_runV (As := [.int 0]) (rest := []) ⟨hx, hb, hml, hown, hts⟩ (c_MM_peek l D a cI cZ hJ I F 0 H.size P2 hc2) (cwV 1 hts (tb_V (C := "CodeJudgeModel") wc_MM_peek tw_5_47 tw_5_49 tw_0_37 tw_1_9) rfl rfl rfl (by decide +kernel) ⟨Nat.le_of_ble_eq_true rfl, Nat.le_of_ble_eq_true rfl⟩) ⟨mP_bl, va_recv hK hP rfl mw_0, mP_at hP hK⟩ rfl rfl hl.1 rfl (lv_room (Nat.le_of_ble_eq_true rfl)) dMM_troubleOf_14 ⟨Nat.le_of_ble_eq_true rfl, Nat.le_of_ble_eq_true rfl⟩) hS (fun r2 I2 F2 H locs hP hp2 hS => ?_)
    have hw := hw r2 I2 F2 hp2
    refine lv_if_ne (tgt := 22) hx hb dMM_troubleOf_17 (by decide) (fun h3 => ?_) (fun h3 => ?_)
    · have hw := hw.1 h3
      exact J22 x1 I2 F2 H locs ls (lv_sub hl [0, 1] rfl) hP hS hw
    · have hw := hw.2 h3
      refine lv_iconst (v := 2) hx hb dMM_troubleOf_20 (by decide) ?_
      rw [hQ]
      exact W.iret (v := 2) hx hb hr (fun t ht hW => ⟨⟨2, (I2, F2), rfl, hw, by subst ht; exact hP⟩, hS.F ht⟩) hS.2.2 dMM_troubleOf_21
  suffices hM : ∀ (H : Heap) (locs : List Loc), va_P D vwCl (mw a cI cZ I F) H → va_S (xA 26 a s.heap.size) s.heap H locs → W p l e (headSpec (Cond.code y_MM_troubleOf b_MM_troubleOf 2 (some .int) :: TB) { frames := 1, cells := 0, slots := 0, locals := 22 }).room s m ([.ref (a 0), .int p1]).toArray below meth c H locs 0 0 (Q) (F0 m 0 ls []) from hM s.heap [] hP va_S.rf
  clear hP
  intro H locs hP hS
  dsimp only [wp_MM_troubleOf] at hw
  refine lv_iload_n hx hb dMM_troubleOf_0 rfl (lv_at hl 1 rfl) ?_
  refine lv_bipush (v := 8) hx hb dMM_troubleOf_1 (by decide) ?_
  refine lv_icmp_eq (tgt := 12) hx hb dMM_troubleOf_3 (by decide) (fun h1 => ?_) (fun h1 => ?_)
  · have hw := hw.1 h1
    exact J12 p1 I F H locs ls (lv_sub hl [0, 1] rfl) hP hS hw
  · have hw := hw.2 h1
    refine lv_iload_n hx hb dMM_troubleOf_6 rfl (lv_at hl 1 rfl) ?_
    refine lv_bipush (v := 9) hx hb dMM_troubleOf_7 (by decide) ?_
    refine lv_icmp_ne (tgt := 22) hx hb dMM_troubleOf_9 (by decide) (fun h33 => ?_) (fun h33 => ?_)
    · have hw := hw.1 h33
      exact J22 p1 I F H locs ls (lv_sub hl [0, 1] rfl) hP hS hw
    · have hw := hw.2 h33
      exact J12 p1 I F H locs ls (lv_sub hl [0, 1] rfl) hP hS hw
