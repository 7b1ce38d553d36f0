def wp_MM_look_127 (Post : SI → SF → Prop)  (I : SI) (F : SF) : Prop := Post (va_up I 2 1) F
def wp_MM_look_158 (Post : SI → SF → Prop) (x1 : Int32) (x2 : Int32) (x3 : Int32) (I : SI) (F : SF) : Prop := (x3 = 14 → (Post I F)) ∧ (¬ x3 = 14 → ((x3 = 24 → (Post I F)) ∧ (¬ x3 = 24 → ((¬ (I 2) = 0 → (Post I F)) ∧ ((I 2) = 0 → (∃ P17 : SI → SF → Prop, wp_MM_come x1 (x2 + 1) I F P17 ∧ ∀ I17 F17, P17 I17 F17 → (Post I17 F17)))))))
def wp_MM_look_151 (Post : SI → SF → Prop) (x1 : Int32) (x2 : Int32) (x3 : Int32) (x4 : Int32) (I : SI) (F : SF) : Prop := ∃ P18 : SI → SF → Prop, wp_MM_come x1 x4 I F P18 ∧ ∀ I18 F18, P18 I18 F18 → (wp_MM_look_158 Post x1 x2 x3 I18 F18)
def wp_MM_look_145 (Post : SI → SF → Prop) (x1 : Int32) (x2 : Int32) (x3 : Int32) (x4 : Int32) (I : SI) (F : SF) : Prop := (¬ x3 = 19 → (wp_MM_look_158 Post x1 x2 x3 I F)) ∧ (x3 = 19 → (wp_MM_look_151 Post x1 x2 x3 x4 I F))
def wp_MM_look_45 (Post : SI → SF → Prop) : Nat → Int32 → Int32 → Int32 → SI → SF → Prop
  | 0 => fun _ _ _ _ _ => False
  | n + 1 => fun x1 x2 x3 I F => (10 ≤ x3 → (vp_in (((120 : Int32) * x1) + x2) 960 ∧ (∀ x5 : Int32, x5 = ((F 8) (((120 : Int32) * x1) + x2 : Int32).toNatClampNeg) → (vp_in (((120 : Int32) * x1) + x2) 960 ∧ (∀ x7 : Int32, x7 = ((F 9) (((120 : Int32) * x1) + x2 : Int32).toNatClampNeg) → (∃ P8 : SI → SF → Prop, wp_MM_effect x1 x5 x7 I F P8 ∧ ∀ I8 F8, P8 I8 F8 → ((¬ (I8 2) = 0 → (wp_MM_look_127 Post I8 F8)) ∧ ((I8 2) = 0 → (vp_in x1 8 ∧ (((I8 3) ≤ ((F8 6) x1.toNatClampNeg) → ((x5 < 14 → (wp_MM_look_145 Post x1 x2 x5 x7 I8 F8)) ∧ (¬ x5 < 14 → ((x5 ≤ 17 → (wp_MM_look_151 Post x1 x2 x5 x7 I8 F8)) ∧ (¬ x5 ≤ 17 → (wp_MM_look_145 Post x1 x2 x5 x7 I8 F8)))))) ∧ (¬ (I8 3) ≤ ((F8 6) x1.toNatClampNeg) → (wp_MM_look_127 Post I8 F8)))))))))))) ∧ (¬ 10 ≤ x3 → (vp_in (((10 : Int32) * x2) + x3) 1200 ∧ (vp_in x3 10 ∧ (∀ x22 : Int32, x22 = x3 + 1 → ((wp_MM_look_45 Post n) x1 x2 x22 I (va_up F 15 (upd (F 15) x3.toNatClampNeg ((F 12) (((10 : Int32) * x2) + x3 : Int32).toNatClampNeg))))))))
def wp_MM_look_12 (Post : SI → SF → Prop) : Nat → Int32 → Int32 → Int32 → SI → SF → Prop
  | 0 => fun _ _ _ _ _ => False
  | n + 1 => fun x1 x2 x3 I F => ((I 3) ≤ x3 → (∃ q45, wp_MM_look_45 Post q45 x1 x2 0 I F)) ∧ (¬ (I 3) ≤ x3 → (vp_in (((16 : Int32) * x2) + x3) 1920 ∧ (vp_in x3 32 ∧ (∀ x25 : Int32, x25 = x3 + 1 → ((wp_MM_look_12 Post n) x1 x2 x25 I (va_up F 14 (upd (F 14) x3.toNatClampNeg ((F 11) (((16 : Int32) * x2) + x3 : Int32).toNatClampNeg))))))))
def wp_MM_look (p1 : Int32) (p2 : Int32) (I : SI) (F : SF) (Post : SI → SF → Prop) : Prop := vp_in p2 120 ∧ (∃ q12, wp_MM_look_12 Post q12 p1 p2 0 (va_up I 3 ((F 10) p2.toNatClampNeg)) F)
set_option maxHeartbeats 4000000 in
set_option maxRecDepth 100000 in
theorem c_MM_look (l : Launch) (D : va_G) (a : Nat → Nat) (cI cZ : ClassId) (hJ : xJ 26 a) (I : SI) (F : SF) (p1 : Int32) (p2 : Int32) (sz : Nat) (Post : SI → SF → Prop) (hw : wp_MM_look p1 p2 I F Post) : Met l y_MM_look (Cond.code y_MM_look b_MM_look 5 none :: TB) { frames := 3, cells := 0, slots := 0, locals := 72 } (va_Pc [.ref (a 0), .int p1, .int p2] (mP D a cI cZ I F sz)) (va_Qv (fun (u : SI × SF) => Post u.1 u.2) (fun u t => va_P D vwCl (mw a cI cZ u.1 u.2) t.heap) (xA 26 a sz)) 0 0 (xA 26 a sz) := by
  refine Met.ofW (cc := b_MM_look) (maxL := 5) (ret := none) (by decide) rfl ?_
  intro p e s m args below meth c s₁ B hml hv
  obtain ⟨rfl, rfl, hP, hK⟩ := hv
  have hx := B.exec
  have hb := B.bytes
  have hr := B.returns
  have hts : ∀ w ∈ TB, w.before _ s = true := fun w h => atoms_spec (ws := Cond.code y_MM_look b_MM_look 5 none :: TB) B.pre w (List.mem_cons_of_mem _ h)
  have hown : s.vm.findClass "CodeJudgeModel" = some m.cls := findClass_of_methodNamed B.named
  have hlocks := B.notSynchronized
  have hl := lv_entry ([.ref (a 0), .int p1, .int p2]) (n := 5) (Nat.le_of_ble_eq_true rfl)
  rw [lg_entry_eq]
  generalize (lg_sl ([.ref (a 0), .int p1, .int p2]) ++ List.replicate (5 - (lg_sl ([.ref (a 0), .int p1, .int p2])).length) Slot.unset).toArray = ls at hl ⊢
  have hl : lv_has ls 5 [(0, .ref (a 0)), (1, .int p1), (2, .int p2)] := hl
  obtain ⟨Q, hQ⟩ : ∃ Q, Q = MQ below (va_Qv (fun (u : SI × SF) => Post u.1 u.2) (fun u t => va_P D vwCl (mw a cI cZ u.1 u.2) t.heap) (xA 26 a s.heap.size)) ([.ref (a 0), .int p1, .int p2]).toArray s 0 0 (xA 26 a s.heap.size) := ⟨_, rfl⟩
  rw [← hQ]
  have J127 : ∀ (I : SI) (F : SF) (H : Heap) (locs : List Loc) (ls : Array Slot), lv_has ls 5 [(0, .ref (a 0))] → va_P D vwCl (mw a cI cZ I F) H → va_S (xA 26 a s.heap.size) s.heap H locs → wp_MM_look_127 Post I F → W p l e (headSpec (Cond.code y_MM_look b_MM_look 5 none :: TB) { frames := 3, cells := 0, slots := 0, locals := 72 }).room s m ([.ref (a 0), .int p1, .int p2]).toArray below meth c H locs 0 0 Q (F0 m 127 ls []) := by
    intro I F H locs ls hl hP hS hw
    dsimp only [wp_MM_look_127] at hw
    refine lv_aload_n hx hb dMM_look_127 rfl (lv_at hl 0 rfl) ?_
    refine lv_iconst (v := 1) hx hb dMM_look_128 (by decide) ?_
    refine va_put (D := D) (ci := 8) (v := .int 1) (ty := .boolean) (C := "CodeJudgeModel") (T := T_MM) (N := 37) hx hb hts in_MM ty_MM ok_MM nm_MM hown hK hP (mD hJ) hS 0 mw_0 rfl 15 (by decide) (hts (.fieldLink "CodeJudgeModel" 113 "CodeJudgeModel" "fails" "Z") tw_4_80) (fun _ h9 => h9) rfl (by decide +kernel) rfl rfl (Nat.le_of_ble_eq_true rfl) dMM_look_129 (fun H locs hP _ hS => ?_)
    have hP := mwp_2 hP
    rw [hQ]
    exact W.vret hx hb hr (fun t ht hW => ⟨⟨((va_up I 2 1), F), rfl, hw, by subst ht; exact hP⟩, hS.F ht⟩) hS.2.2 dMM_look_132
  have J158 : ∀ (x1 : Int32) (x2 : Int32) (x3 : Int32) (I : SI) (F : SF) (H : Heap) (locs : List Loc) (ls : Array Slot), lv_has ls 5 [(0, .ref (a 0)), (1, .int x1), (2, .int x2), (3, .int x3)] → va_P D vwCl (mw a cI cZ I F) H → va_S (xA 26 a s.heap.size) s.heap H locs → wp_MM_look_158 Post x1 x2 x3 I F → W p l e (headSpec (Cond.code y_MM_look b_MM_look 5 none :: TB) { frames := 3, cells := 0, slots := 0, locals := 72 }).room s m ([.ref (a 0), .int p1, .int p2]).toArray below meth c H locs 0 0 Q (F0 m 158 ls []) := by
    intro x1 x2 x3 I F H locs ls hl hP hS hw
    dsimp only [wp_MM_look_158] at hw
    refine lv_iload_n hx hb dMM_look_158 rfl (lv_at hl 3 rfl) ?_
    refine lv_bipush (v := 14) hx hb dMM_look_159 (by decide) ?_
    refine lv_icmp_eq (tgt := 185) hx hb dMM_look_161 (by decide) (fun h14 => ?_) (fun h14 => ?_)
    · have hw := hw.1 h14
      rw [hQ]
      exact W.vret hx hb hr (fun t ht hW => ⟨⟨(I, F), rfl, hw, by subst ht; exact hP⟩, hS.F ht⟩) hS.2.2 dMM_look_185
    · have hw := hw.2 h14
      refine lv_iload_n hx hb dMM_look_164 rfl (lv_at hl 3 rfl) ?_
      refine lv_bipush (v := 24) hx hb dMM_look_165 (by decide) ?_
      refine lv_icmp_eq (tgt := 185) hx hb dMM_look_167 (by decide) (fun h15 => ?_) (fun h15 => ?_)
      · have hw := hw.1 h15
        rw [hQ]
        exact W.vret hx hb hr (fun t ht hW => ⟨⟨(I, F), rfl, hw, by subst ht; exact hP⟩, hS.F ht⟩) hS.2.2 dMM_look_185
      · have hw := hw.2 h15
        refine lv_aload_n hx hb dMM_look_170 rfl (lv_at hl 0 rfl) ?_
        refine va_get (D := D) (v := .int (I 2)) (ci := 8) (C := "CodeJudgeModel") (T := T_MM) (N := 37) hx hb hts in_MM hown hK hP 0 mw_0 rfl 15 (by decide) (hts (.fieldLink "CodeJudgeModel" 113 "CodeJudgeModel" "fails" "Z") tw_4_80) (fun _ h9 => h9) rfl dMM_look_171 ?_
        refine lv_if_ne (tgt := 185) hx hb dMM_look_174 (by decide) (fun h16 => ?_) (fun h16 => ?_)
        · have hw := hw.1 h16
          rw [hQ]
          exact W.vret hx hb hr (fun t ht hW => ⟨⟨(I, F), rfl, hw, by subst ht; exact hP⟩, hS.F ht⟩) hS.2.2 dMM_look_185
        · have hw := hw.2 h16
          refine lv_aload_n hx hb dMM_look_177 rfl (lv_at hl 0 rfl) ?_
          refine lv_iload_n hx hb dMM_look_178 rfl (lv_at hl 1 rfl) ?_
          refine lv_iload_n hx hb dMM_look_179 rfl (lv_at hl 2 rfl) ?_
          refine lv_iconst (v := 1) hx hb dMM_look_180 (by decide) ?_
          refine lv_iadd hx hb dMM_look_181 ?_
          obtain ⟨P17, hc17, hw⟩ := hw
          refine mc_v (va_runV (As := [.int x1, .int (x2 + 1)]) (rest := []) ⟨hx, hb, hml, hown, hts⟩ (c_MM_come l D a cI cZ hJ I F x1 (x2 + 1) H.size P17 hc17) (cwV 2 hts (tb_V (C := "CodeJudgeModel") wc_MM_come tw_4_220 tw_4_222 tw_0_25 tw_1_9) rfl rfl rfl (by decide +kernel) ⟨Nat.le_of_ble_eq_true rfl, Nat.le_of_ble_eq_true rfl⟩) ⟨mP_bl, va_recv hK hP rfl mw_0, mP_at hP hK⟩ rfl rfl hl.1 rfl (lv_room (Nat.le_of_ble_eq_true rfl)) dMM_look_182 ⟨Nat.le_of_ble_eq_true rfl, Nat.le_of_ble_eq_true rfl⟩) hS (fun I17 F17 H locs hP hp17 hS => ?_)
          have hw := hw I17 F17 hp17
          rw [hQ]
          exact W.vret hx hb hr (fun t ht hW => ⟨⟨(I17, F17), rfl, hw, by subst ht; exact hP⟩, hS.F ht⟩) hS.2.2 dMM_look_185
  have J151 : ∀ (x1 : Int32) (x2 : Int32) (x3 : Int32) (x4 : Int32) (I : SI) (F : SF) (H : Heap) (locs : List Loc) (ls : Array Slot), lv_has ls 5 [(0, .ref (a 0)), (1, .int x1), (2, .int x2), (3, .int x3), (4, .int x4)] → va_P D vwCl (mw a cI cZ I F) H → va_S (xA 26 a s.heap.size) s.heap H locs → wp_MM_look_151 Post x1 x2 x3 x4 I F → W p l e (headSpec (Cond.code y_MM_look b_MM_look 5 none :: TB) { frames := 3, cells := 0, slots := 0, locals := 72 }).room s m ([.ref (a 0), .int p1, .int p2]).toArray below meth c H locs 0 0 Q (F0 m 151 ls []) := by
    intro x1 x2 x3 x4 I F H locs ls hl hP hS hw
    dsimp only [wp_MM_look_151] at hw
    refine lv_aload_n hx hb dMM_look_151 rfl (lv_at hl 0 rfl) ?_
    refine lv_iload_n hx hb dMM_look_152 rfl (lv_at hl 1 rfl) ?_
    refine lv_iload hx hb dMM_look_153 (lv_at hl 4 rfl) ?_
    obtain ⟨P18, hc18, hw⟩ := hw
    refine mc_v (va_runV (As := [.int x1, .int x4]) (rest := []) ⟨hx, hb, hml, hown, hts⟩ (c_MM_come l D a cI cZ hJ I F x1 x4 H.size P18 hc18) (cwV 2 hts (tb_V (C := "CodeJudgeModel") wc_MM_come tw_4_220 tw_4_222 tw_0_25 tw_1_9) rfl rfl rfl (by decide +kernel) ⟨Nat.le_of_ble_eq_true rfl, Nat.le_of_ble_eq_true rfl⟩) ⟨mP_bl, va_recv hK hP rfl mw_0, mP_at hP hK⟩ rfl rfl hl.1 rfl (lv_room (Nat.le_of_ble_eq_true rfl)) dMM_look_155 ⟨Nat.le_of_ble_eq_true rfl, Nat.le_of_ble_eq_true rfl⟩) hS (fun I18 F18 H locs hP hp18 hS => ?_)
    have hw := hw I18 F18 hp18
    exact J158 x1 x2 x3 I18 F18 H locs ls (lv_sub hl [0, 1, 2, 3] rfl) hP hS hw
  have J145 : ∀ (x1 : Int32) (x2 : Int32) (x3 : Int32) (x4 : Int32) (I : SI) (F : SF) (H : Heap) (locs : List Loc) (ls : Array Slot), lv_has ls 5 [(0, .ref (a 0)), (1, .int x1), (2, .int x2), (3, .int x3), (4, .int x4)] → va_P D vwCl (mw a cI cZ I F) H → va_S (xA 26 a s.heap.size) s.heap H locs → wp_MM_look_145 Post x1 x2 x3 x4 I F → W p l e (headSpec (Cond.code y_MM_look b_MM_look 5 none :: TB) { frames := 3, cells := 0, slots := 0, locals := 72 }).room s m ([.ref (a 0), .int p1, .int p2]).toArray below meth c H locs 0 0 Q (F0 m 145 ls []) := by
    intro x1 x2 x3 x4 I F H locs ls hl hP hS hw
    dsimp only [wp_MM_look_145] at hw
    refine lv_iload_n hx hb dMM_look_145 rfl (lv_at hl 3 rfl) ?_
    refine lv_bipush (v := 19) hx hb dMM_look_146 (by decide) ?_
    refine lv_icmp_ne (tgt := 158) hx hb dMM_look_148 (by decide) (fun h13 => ?_) (fun h13 => ?_)
    · have hw := hw.1 h13
      exact J158 x1 x2 x3 I F H locs ls (lv_sub hl [0, 1, 2, 3] rfl) hP hS hw
    · have hw := hw.2 h13
      exact J151 x1 x2 x3 x4 I F H locs ls (lv_sub hl [0, 1, 2, 3, 4] rfl) hP hS hw
  have J45 : ∀ n : Nat, ∀ (x1 : Int32) (x2 : Int32) (x3 : Int32) (I : SI) (F : SF) (H : Heap) (locs : List Loc) (ls : Array Slot), lv_has ls 5 [(0, .ref (a 0)), (1, .int x1), (2, .int x2), (3, .int x3)] → va_P D vwCl (mw a cI cZ I F) H → va_S (xA 26 a s.heap.size) s.heap H locs → wp_MM_look_45 Post n x1 x2 x3 I F → W p l e (headSpec (Cond.code y_MM_look b_MM_look 5 none :: TB) { frames := 3, cells := 0, slots := 0, locals := 72 }).room s m ([.ref (a 0), .int p1, .int p2]).toArray below meth c H locs 0 0 Q (F0 m 45 ls []) := by
    intro n45
    induction n45 with
    | zero =>
      intro x1 x2 x3 I F H locs ls hl hP hS hw
      exact False.elim hw
    | succ n45 ih45 =>
      intro x1 x2 x3 I F H locs ls hl hP hS hw
      dsimp only [wp_MM_look_45] at hw
      refine lv_iload_n hx hb dMM_look_45 rfl (lv_at hl 3 rfl) ?_
      refine lv_bipush (v := 10) hx hb dMM_look_46 (by decide) ?_
      refine lv_icmp_ge (tgt := 74) hx hb dMM_look_48 (by decide) (fun h3 => ?_) (fun h3 => ?_)
      · have hw := hw.1 h3
        refine lv_aload_n hx hb dMM_look_74 rfl (lv_at hl 0 rfl) ?_
        refine va_get (D := D) (v := .ref (a 8)) (ci := 8) (C := "CodeJudgeModel") (T := T_MM) (N := 37) hx hb hts in_MM hown hK hP 0 mw_0 rfl 8 (by decide) (hts (.fieldLink "CodeJudgeModel" 32 "CodeJudgeModel" "orders" "[I") tw_4_74) (fun _ h9 => h9) rfl dMM_look_75 ?_
        refine lv_bipush (v := 120) hx hb dMM_look_78 (by decide) ?_
        refine lv_iload_n hx hb dMM_look_80 rfl (lv_at hl 1 rfl) ?_
        refine lv_imul hx hb dMM_look_81 ?_
        refine lv_iload_n hx hb dMM_look_82 rfl (lv_at hl 2 rfl) ?_
        refine lv_iadd hx hb dMM_look_83 ?_
        obtain ⟨h4, hw⟩ := hw
        refine va_iald hx hb hK hP 8 0 mw_8 rfl h4 dMM_look_84 ?_
        refine lv_topi (fun x5 e_x5 => ?_)
        have hw := hw x5 e_x5
        refine lv_istore_n (lv' := [(3, .int x5), (0, .ref (a 0)), (1, .int x1), (2, .int x2)]) hx hb dMM_look_85 rfl hl (by decide) rfl (fun ls hl => ?_)
        refine lv_aload_n hx hb dMM_look_86 rfl (lv_at hl 1 rfl) ?_
        refine va_get (D := D) (v := .ref (a 9)) (ci := 8) (C := "CodeJudgeModel") (T := T_MM) (N := 37) hx hb hts in_MM hown hK hP 0 mw_0 rfl 9 (by decide) (hts (.fieldLink "CodeJudgeModel" 35 "CodeJudgeModel" "numbers" "[I") tw_4_75) (fun _ h9 => h9) rfl dMM_look_87 ?_
        refine lv_bipush (v := 120) hx hb dMM_look_90 (by decide) ?_
        refine lv_iload_n hx hb dMM_look_92 rfl (lv_at hl 2 rfl) ?_
        refine lv_imul hx hb dMM_look_93 ?_
        refine lv_iload_n hx hb dMM_look_94 rfl (lv_at hl 3 rfl) ?_
        refine lv_iadd hx hb dMM_look_95 ?_
        obtain ⟨h6, hw⟩ := hw
        refine va_iald hx hb hK hP 9 0 mw_9 rfl h6 dMM_look_96 ?_
        refine lv_topi (fun x7 e_x7 => ?_)
        have hw := hw x7 e_x7
        refine lv_istore (lv' := [(4, .int x7), (3, .int x5), (0, .ref (a 0)), (1, .int x1), (2, .int x2)]) hx hb dMM_look_97 hl (by decide) rfl (fun ls hl => ?_)
        refine lv_aload_n hx hb dMM_look_99 rfl (lv_at hl 2 rfl) ?_
        refine lv_iload_n hx hb dMM_look_100 rfl (lv_at hl 3 rfl) ?_
        refine lv_iload_n hx hb dMM_look_101 rfl (lv_at hl 1 rfl) ?_
        refine lv_iload hx hb dMM_look_102 (lv_at hl 0 rfl) ?_
        obtain ⟨P8, hc8, hw⟩ := hw
        refine mc_v (va_runV (As := [.int x1, .int x5, .int x7]) (rest := []) ⟨hx, hb, hml, hown, hts⟩ (c_MM_effect l D a cI cZ hJ I F x1 x5 x7 H.size P8 hc8) (cwV 3 hts (tb_V (C := "CodeJudgeModel") wc_MM_effect tw_4_228 tw_4_230 tw_0_27 tw_1_9) rfl rfl rfl (by decide +kernel) ⟨Nat.le_of_ble_eq_true rfl, Nat.le_of_ble_eq_true rfl⟩) ⟨mP_bl, va_recv hK hP rfl mw_0, mP_at hP hK⟩ rfl rfl hl.1 rfl (lv_room (Nat.le_of_ble_eq_true rfl)) dMM_look_104 ⟨Nat.le_of_ble_eq_true rfl, Nat.le_of_ble_eq_true rfl⟩) hS (fun I8 F8 H locs hP hp8 hS => ?_)
        have hw := hw I8 F8 hp8
        refine lv_aload_n hx hb dMM_look_107 rfl (lv_at hl 2 rfl) ?_
        refine va_get (D := D) (v := .int (I8 2)) (ci := 8) (C := "CodeJudgeModel") (T := T_MM) (N := 37) hx hb hts in_MM hown hK hP 0 mw_0 rfl 15 (by decide) (hts (.fieldLink "CodeJudgeModel" 113 "CodeJudgeModel" "fails" "Z") tw_4_80) (fun _ h9 => h9) rfl dMM_look_108 ?_
        refine lv_if_ne (tgt := 127) hx hb dMM_look_111 (by decide) (fun h9 => ?_) (fun h9 => ?_)
        · have hw := hw.1 h9
          exact J127 I8 F8 H locs ls (lv_sub hl [2] rfl) hP hS hw
        · have hw := hw.2 h9
          refine lv_aload_n hx hb dMM_look_114 rfl (lv_at hl 2 rfl) ?_
          refine va_get (D := D) (v := .int (I8 3)) (ci := 8) (C := "CodeJudgeModel") (T := T_MM) (N := 37) hx hb hts in_MM hown hK hP 0 mw_0 rfl 16 (by decide) (hts (.fieldLink "CodeJudgeModel" 110 "CodeJudgeModel" "high" "I") tw_4_81) (fun _ h9 => h9) rfl dMM_look_115 ?_
          refine lv_aload_n hx hb dMM_look_118 rfl (lv_at hl 2 rfl) ?_
          refine va_get (D := D) (v := .ref (a 6)) (ci := 8) (C := "CodeJudgeModel") (T := T_MM) (N := 37) hx hb hts in_MM hown hK hP 0 mw_0 rfl 6 (by decide) (hts (.fieldLink "CodeJudgeModel" 26 "CodeJudgeModel" "limits" "[I") tw_4_72) (fun _ h9 => h9) rfl dMM_look_119 ?_
          refine lv_iload_n hx hb dMM_look_122 rfl (lv_at hl 3 rfl) ?_
          obtain ⟨h10, hw⟩ := hw
          refine va_iald hx hb hK hP 6 0 mw_6 rfl h10 dMM_look_123 ?_
          refine lv_icmp_le (tgt := 133) hx hb dMM_look_124 (by decide) (fun h11 => ?_) (fun h11 => ?_)
          · have hw := hw.1 h11
            refine lv_iload_n hx hb dMM_look_133 rfl (lv_at hl 1 rfl) ?_
            refine lv_bipush (v := 14) hx hb dMM_look_134 (by decide) ?_
            refine lv_icmp_lt (tgt := 145) hx hb dMM_look_136 (by decide) (fun h12 => ?_) (fun h12 => ?_)
            · have hw := hw.1 h12
              exact J145 x1 x2 x5 x7 I8 F8 H locs ls (lv_sub hl [2, 3, 4, 1, 0] rfl) hP hS hw
            · have hw := hw.2 h12
              refine lv_iload_n hx hb dMM_look_139 rfl (lv_at hl 1 rfl) ?_
              refine lv_bipush (v := 17) hx hb dMM_look_140 (by decide) ?_
              refine lv_icmp_le (tgt := 151) hx hb dMM_look_142 (by decide) (fun h19 => ?_) (fun h19 => ?_)
              · have hw := hw.1 h19
                exact J151 x1 x2 x5 x7 I8 F8 H locs ls (lv_sub hl [2, 3, 4, 1, 0] rfl) hP hS hw
              · have hw := hw.2 h19
                exact J145 x1 x2 x5 x7 I8 F8 H locs ls (lv_sub hl [2, 3, 4, 1, 0] rfl) hP hS hw
          · have hw := hw.2 h11
            exact J127 I8 F8 H locs ls (lv_sub hl [2] rfl) hP hS hw
      · have hw := hw.2 h3
        refine lv_aload_n hx hb dMM_look_51 rfl (lv_at hl 0 rfl) ?_
        refine va_get (D := D) (v := .ref (a 15)) (ci := 8) (C := "CodeJudgeModel") (T := T_MM) (N := 37) hx hb hts in_MM hown hK hP 0 mw_0 rfl 18 (by decide) (hts (.fieldLink "CodeJudgeModel" 53 "CodeJudgeModel" "holds" "[I") tw_4_83) (fun _ h9 => h9) rfl dMM_look_52 ?_
        refine lv_iload_n hx hb dMM_look_55 rfl (lv_at hl 3 rfl) ?_
        refine lv_aload_n hx hb dMM_look_56 rfl (lv_at hl 0 rfl) ?_
        refine va_get (D := D) (v := .ref (a 12)) (ci := 8) (C := "CodeJudgeModel") (T := T_MM) (N := 37) hx hb hts in_MM hown hK hP 0 mw_0 rfl 13 (by decide) (hts (.fieldLink "CodeJudgeModel" 44 "CodeJudgeModel" "types" "[I") tw_4_78) (fun _ h9 => h9) rfl dMM_look_57 ?_
        refine lv_bipush (v := 10) hx hb dMM_look_60 (by decide) ?_
        refine lv_iload_n hx hb dMM_look_62 rfl (lv_at hl 2 rfl) ?_
        refine lv_imul hx hb dMM_look_63 ?_
        refine lv_iload_n hx hb dMM_look_64 rfl (lv_at hl 3 rfl) ?_
        refine lv_iadd hx hb dMM_look_65 ?_
        obtain ⟨h20, hw⟩ := hw
        refine va_iald hx hb hK hP 12 0 mw_12 rfl h20 dMM_look_66 ?_
        obtain ⟨h21, hw⟩ := hw
        refine va_iast hx hb hK hP (mD hJ) hS 15 0 mw_15 rfl h21 dMM_look_67 (fun H locs hP _ hS => ?_)
        have hP := mwa_15 hP
        obtain ⟨x22, e_x22⟩ : ∃ z : Int32, z = x3 + 1 := ⟨_, rfl⟩
        have hw := hw x22 e_x22
        refine lv_iinc (k := 3) (v := x22) (lv' := [(3, .int x22), (0, .ref (a 0)), (1, .int x1), (2, .int x2)]) hx hb dMM_look_68 hl rfl (e_x22 ▸ (by first | rfl | decide)) (by decide) rfl (fun ls hl => ?_)
        refine lv_goto (tgt := 45) hx hb dMM_look_71 (by decide) ?_
        exact ih45 x1 x2 x22 I (va_up F 15 (upd (F 15) x3.toNatClampNeg ((F 12) (((10 : Int32) * x2) + x3 : Int32).toNatClampNeg))) H locs ls (lv_sub hl [1, 2, 3, 0] rfl) hP hS hw
  have J12 : ∀ n : Nat, ∀ (x1 : Int32) (x2 : Int32) (x3 : Int32) (I : SI) (F : SF) (H : Heap) (locs : List Loc) (ls : Array Slot), lv_has ls 5 [(0, .ref (a 0)), (1, .int x1), (2, .int x2), (3, .int x3)] → va_P D vwCl (mw a cI cZ I F) H → va_S (xA 26 a s.heap.size) s.heap H locs → wp_MM_look_12 Post n x1 x2 x3 I F → W p l e (headSpec (Cond.code y_MM_look b_MM_look 5 none :: TB) { frames := 3, cells := 0, slots := 0, locals := 72 }).room s m ([.ref (a 0), .int p1, .int p2]).toArray below meth c H locs 0 0 Q (F0 m 12 ls []) := by
    intro n12
    induction n12 with
    | zero =>
      intro x1 x2 x3 I F H locs ls hl hP hS hw
      exact False.elim hw
    | succ n12 ih12 =>
      intro x1 x2 x3 I F H locs ls hl hP hS hw
      dsimp only [wp_MM_look_12] at hw
      refine lv_iload_n hx hb dMM_look_12 rfl (lv_at hl 3 rfl) ?_
      refine lv_aload_n hx hb dMM_look_13 rfl (lv_at hl 0 rfl) ?_
      refine va_get (D := D) (v := .int (I 3)) (ci := 8) (C := "CodeJudgeModel") (T := T_MM) (N := 37) hx hb hts in_MM hown hK hP 0 mw_0 rfl 16 (by decide) (hts (.fieldLink "CodeJudgeModel" 110 "CodeJudgeModel" "high" "I") tw_4_81) (fun _ h9 => h9) rfl dMM_look_14 ?_
      refine lv_icmp_ge (tgt := 43) hx hb dMM_look_17 (by decide) (fun h2 => ?_) (fun h2 => ?_)
      · have hw := hw.1 h2
        refine lv_iconst (v := 0) hx hb dMM_look_43 (by decide) ?_
        refine lv_istore_n (lv' := [(3, .int 0), (0, .ref (a 0)), (1, .int x1), (2, .int x2)]) hx hb dMM_look_44 rfl hl (by decide) rfl (fun ls hl => ?_)
        obtain ⟨n45, hw⟩ := hw
        exact J45 n45 x1 x2 0 I F H locs ls (lv_sub hl [1, 2, 3, 0] rfl) hP hS hw
      · have hw := hw.2 h2
        refine lv_aload_n hx hb dMM_look_20 rfl (lv_at hl 0 rfl) ?_
        refine va_get (D := D) (v := .ref (a 14)) (ci := 8) (C := "CodeJudgeModel") (T := T_MM) (N := 37) hx hb hts in_MM hown hK hP 0 mw_0 rfl 17 (by decide) (hts (.fieldLink "CodeJudgeModel" 50 "CodeJudgeModel" "row" "[I") tw_4_82) (fun _ h9 => h9) rfl dMM_look_21 ?_
        refine lv_iload_n hx hb dMM_look_24 rfl (lv_at hl 3 rfl) ?_
        refine lv_aload_n hx hb dMM_look_25 rfl (lv_at hl 0 rfl) ?_
        refine va_get (D := D) (v := .ref (a 11)) (ci := 8) (C := "CodeJudgeModel") (T := T_MM) (N := 37) hx hb hts in_MM hown hK hP 0 mw_0 rfl 12 (by decide) (hts (.fieldLink "CodeJudgeModel" 41 "CodeJudgeModel" "stacks" "[I") tw_4_77) (fun _ h9 => h9) rfl dMM_look_26 ?_
        refine lv_bipush (v := 16) hx hb dMM_look_29 (by decide) ?_
        refine lv_iload_n hx hb dMM_look_31 rfl (lv_at hl 2 rfl) ?_
        refine lv_imul hx hb dMM_look_32 ?_
        refine lv_iload_n hx hb dMM_look_33 rfl (lv_at hl 3 rfl) ?_
        refine lv_iadd hx hb dMM_look_34 ?_
        obtain ⟨h23, hw⟩ := hw
        refine va_iald hx hb hK hP 11 0 mw_11 rfl h23 dMM_look_35 ?_
        obtain ⟨h24, hw⟩ := hw
        refine va_iast hx hb hK hP (mD hJ) hS 14 0 mw_14 rfl h24 dMM_look_36 (fun H locs hP _ hS => ?_)
        have hP := mwa_14 hP
        obtain ⟨x25, e_x25⟩ : ∃ z : Int32, z = x3 + 1 := ⟨_, rfl⟩
        have hw := hw x25 e_x25
        refine lv_iinc (k := 3) (v := x25) (lv' := [(3, .int x25), (0, .ref (a 0)), (1, .int x1), (2, .int x2)]) hx hb dMM_look_37 hl rfl (e_x25 ▸ (by first | rfl | decide)) (by decide) rfl (fun ls hl => ?_)
        refine lv_goto (tgt := 12) hx hb dMM_look_40 (by decide) ?_
        exact ih12 x1 x2 x25 I (va_up F 14 (upd (F 14) x3.toNatClampNeg ((F 11) (((16 : Int32) * x2) + x3 : Int32).toNatClampNeg))) H locs ls (lv_sub hl [1, 2, 3, 0] rfl) hP hS hw
  suffices hM : ∀ (H : Heap) (locs : List Loc), va_P D vwCl (mw a cI cZ I F) H → va_S (xA 26 a s.heap.size) s.heap H locs → W p l e (headSpec (Cond.code y_MM_look b_MM_look 5 none :: TB) { frames := 3, cells := 0, slots := 0, locals := 72 }).room s m ([.ref (a 0), .int p1, .int p2]).toArray below meth c H locs 0 0 (Q) (F0 m 0 ls []) from hM s.heap [] hP va_S.rf
  clear hP
  intro H locs hP hS
  dsimp only [wp_MM_look] at hw
  refine lv_aload_n hx hb dMM_look_0 rfl (lv_at hl 0 rfl) ?_
  refine lv_aload_n hx hb dMM_look_1 rfl (lv_at hl 0 rfl) ?_
  refine va_get (D := D) (v := .ref (a 10)) (ci := 8) (C := "CodeJudgeModel") (T := T_MM) (N := 37) hx hb hts in_MM hown hK hP 0 mw_0 rfl 11 (by decide) (hts (.fieldLink "CodeJudgeModel" 38 "CodeJudgeModel" "heights" "[I") tw_4_76) (fun _ h9 => h9) rfl dMM_look_2 ?_
  refine lv_iload_n hx hb dMM_look_5 rfl (lv_at hl 2 rfl) ?_
  obtain ⟨h1, hw⟩ := hw
  refine va_iald hx hb hK hP 10 0 mw_10 rfl h1 dMM_look_6 ?_
  refine va_put (D := D) (ci := 8) (v := .int ((F 10) p2.toNatClampNeg)) (ty := .int) (C := "CodeJudgeModel") (T := T_MM) (N := 37) hx hb hts in_MM ty_MM ok_MM nm_MM hown hK hP (mD hJ) hS 0 mw_0 rfl 16 (by decide) (hts (.fieldLink "CodeJudgeModel" 110 "CodeJudgeModel" "high" "I") tw_4_81) (fun _ h9 => h9) rfl (by decide +kernel) rfl rfl (Nat.le_of_ble_eq_true rfl) dMM_look_7 (fun H locs hP _ hS => ?_)
  have hP := mwp_3 hP
  refine lv_iconst (v := 0) hx hb dMM_look_10 (by decide) ?_
  refine lv_istore_n (lv' := [(3, .int 0), (0, .ref (a 0)), (1, .int p1), (2, .int p2)]) hx hb dMM_look_11 rfl hl (by decide) rfl (fun ls hl => ?_)
  obtain ⟨n12, hw⟩ := hw
  exact J12 n12 p1 p2 0 (va_up I 3 ((F 10) p2.toNatClampNeg)) F H locs ls (lv_sub hl [1, 2, 3, 0] rfl) hP hS hw
def wp_MM_judge_175 (Post : Int32 → SI → SF → Prop)  (I : SI) (F : SF) : Prop := (¬ (I 2) = 0 → (Post 0 I F)) ∧ ((I 2) = 0 → (Post 1 I F))
def wp_MM_judge_172 (K110 : Int32 → Int32 → SI → SF → Prop) (Post : Int32 → SI → SF → Prop) (x1 : Int32) (x2 : Int32) (I : SI) (F : SF) : Prop := K110 x1 x2 I F
def wp_MM_judge_166 (K110 : Int32 → Int32 → SI → SF → Prop) (K125 : Int32 → Int32 → Int32 → SI → SF → Prop) (Post : Int32 → SI → SF → Prop) (x1 : Int32) (x2 : Int32) (x3 : Int32) (I : SI) (F : SF) : Prop := ∀ x13 : Int32, x13 = x3 + 1 → (K125 x1 x2 x13 I F)
def wp_MM_judge_125 (K110 : Int32 → Int32 → SI → SF → Prop) (Post : Int32 → SI → SF → Prop) : Nat → Int32 → Int32 → Int32 → SI → SF → Prop
  | 0 => fun _ _ _ _ _ => False
  | n + 1 => fun x1 x2 x3 I F => vp_in x1 8 ∧ ((((F 7) x1.toNatClampNeg) ≤ x3 → (wp_MM_judge_172 K110 Post x1 x2 I F)) ∧ (¬ ((F 7) x1.toNatClampNeg) ≤ x3 → ((¬ (I 2) = 0 → (wp_MM_judge_172 K110 Post x1 x2 I F)) ∧ ((I 2) = 0 → (vp_in x3 120 ∧ ((((F 13) x3.toNatClampNeg) = 0 → (wp_MM_judge_166 K110 (wp_MM_judge_125 K110 Post n) Post x1 x2 x3 I F)) ∧ (¬ ((F 13) x3.toNatClampNeg) = 0 → (vp_in x3 120 ∧ (∃ P15 : SI → SF → Prop, wp_MM_look x1 x3 I (va_up F 13 (upd (F 13) x3.toNatClampNeg (vp_nar .boolean 0))) P15 ∧ ∀ I15 F15, P15 I15 F15 → (wp_MM_judge_166 K110 (wp_MM_judge_125 K110 Post n) Post x1 1 x3 I15 F15))))))))))
def wp_MM_judge_110 (Post : Int32 → SI → SF → Prop) : Nat → Int32 → Int32 → SI → SF → Prop
  | 0 => fun _ _ _ _ => False
  | n + 1 => fun x1 x2 I F => (x2 = 0 → (wp_MM_judge_175 Post I F)) ∧ (¬ x2 = 0 → ((¬ (I 2) = 0 → (wp_MM_judge_175 Post I F)) ∧ ((I 2) = 0 → (∃ q125, wp_MM_judge_125 (wp_MM_judge_110 Post n) Post q125 x1 0 0 I F))))
def wp_MM_judge_109 (Post : Int32 → SI → SF → Prop) (x1 : Int32) (s0 : Int32) (I : SI) (F : SF) : Prop := ∃ q110, wp_MM_judge_110 Post q110 x1 s0 I F
def wp_MM_judge_84 (K40 : Int32 → Int32 → SI → SF → Prop) (Post : Int32 → SI → SF → Prop) (x1 : Int32) (x2 : Int32) (s0 : Int32) (s1 : Int32) (I : SI) (F : SF) : Prop := vp_in s1 10 ∧ (∀ x21 : Int32, x21 = x2 + 1 → (K40 x1 x21 I (va_up F 15 (upd (F 15) s1.toNatClampNeg s0))))
def wp_MM_judge_40 (Post : Int32 → SI → SF → Prop) : Nat → Int32 → Int32 → SI → SF → Prop
  | 0 => fun _ _ _ _ => False
  | n + 1 => fun x1 x2 I F => (10 ≤ x2 → (∃ P3 : SI → SF → Prop, wp_MM_come x1 0 I F P3 ∧ ∀ I3 F3, P3 I3 F3 → ((¬ (I3 2) = 0 → (wp_MM_judge_109 Post x1 0 I3 F3)) ∧ ((I3 2) = 0 → (wp_MM_judge_109 Post x1 1 I3 F3))))) ∧ (¬ 10 ≤ x2 → (vp_in x1 8 ∧ ((x2 < ((F 2) x1.toNatClampNeg) → (vp_in x1 8 ∧ ((¬ ((((F 3) x1.toNatClampNeg) >>> (x2 &&& 31)) &&& 1) = 1 → (wp_MM_judge_84 (wp_MM_judge_40 Post n) Post x1 x2 1 x2 I F)) ∧ (((((F 3) x1.toNatClampNeg) >>> (x2 &&& 31)) &&& 1) = 1 → (wp_MM_judge_84 (wp_MM_judge_40 Post n) Post x1 x2 2 x2 I F))))) ∧ (¬ x2 < ((F 2) x1.toNatClampNeg) → (wp_MM_judge_84 (wp_MM_judge_40 Post n) Post x1 x2 0 x2 I F)))))
def wp_MM_judge_7 (Post : Int32 → SI → SF → Prop) : Nat → Int32 → Int32 → SI → SF → Prop
  | 0 => fun _ _ _ _ => False
  | n + 1 => fun x1 x2 I F => (120 ≤ x2 → (∃ q40, wp_MM_judge_40 Post q40 x1 0 (va_up I 3 0) F)) ∧ (¬ 120 ≤ x2 → (vp_in x2 120 ∧ (vp_in x2 120 ∧ (∀ x24 : Int32, x24 = x2 + 1 → ((wp_MM_judge_7 Post n) x1 x24 I (va_up (va_up F 10 (upd (F 10) x2.toNatClampNeg (-1))) 13 (upd (F 13) x2.toNatClampNeg (vp_nar .boolean 0))))))))
def wp_MM_judge (p1 : Int32) (I : SI) (F : SF) (Post : Int32 → SI → SF → Prop) : Prop := ∃ q7, wp_MM_judge_7 Post q7 p1 0 (va_up I 2 0) F
set_option maxHeartbeats 4000000 in
set_option maxRecDepth 100000 in
theorem c_MM_judge (l : Launch) (D : va_G) (a : Nat → Nat) (cI cZ : ClassId) (hJ : xJ 26 a) (I : SI) (F : SF) (p1 : Int32) (sz : Nat) (Post : Int32 → SI → SF → Prop) (hw : wp_MM_judge p1 I F Post) : Met l y_MM_judge (Cond.code y_MM_judge b_MM_judge 4 (some .boolean) :: TB) { frames := 4, cells := 0, slots := 0, locals := 96 } (va_Pc [.ref (a 0), .int p1] (mP D a cI cZ I F sz)) (va_Qi (fun r (u : SI × SF) => Post r u.1 u.2) (fun u t => va_P D vwCl (mw a cI cZ u.1 u.2) t.heap) (xA 26 a sz)) 0 0 (xA 26 a sz) := by
  refine Met.ofW (cc := b_MM_judge) (maxL := 4) (ret := (some .boolean)) (by decide) rfl ?_
  intro p e s m args below meth c s₁ B hml hv
  obtain ⟨rfl, rfl, hP, hK⟩ := hv
  have hx := B.exec
  have hb := B.bytes
  have hr := B.returns
  have hts : ∀ w ∈ TB, w.before _ s = true := fun w h => atoms_spec (ws := Cond.code y_MM_judge b_MM_judge 4 (some .boolean) :: TB) B.pre w (List.mem_cons_of_mem _ h)
  have hown : s.vm.findClass "CodeJudgeModel" = some m.cls := findClass_of_methodNamed B.named
  have hlocks := B.notSynchronized
  have hl := lv_entry ([.ref (a 0), .int p1]) (n := 4) (Nat.le_of_ble_eq_true rfl)
  rw [lg_entry_eq]
  generalize (lg_sl ([.ref (a 0), .int p1]) ++ List.replicate (4 - (lg_sl ([.ref (a 0), .int p1])).length) Slot.unset).toArray = ls at hl ⊢
  have hl : lv_has ls 4 [(0, .ref (a 0)), (1, .int p1)] := hl
  obtain ⟨Q, hQ⟩ : ∃ Q, Q = MQ below (va_Qi (fun r (u : SI × SF) => Post r u.1 u.2) (fun u t => va_P D vwCl (mw a cI cZ u.1 u.2) t.heap) (xA 26 a s.heap.size)) ([.ref (a 0), .int p1]).toArray s 0 0 (xA 26 a s.heap.size) := ⟨_, rfl⟩
  rw [← hQ]
  have J175 : ∀ (I : SI) (F : SF) (H : Heap) (locs : List Loc) (ls : Array Slot), lv_has ls 4 [(0, .ref (a 0))] → va_P D vwCl (mw a cI cZ I F) H → va_S (xA 26 a s.heap.size) s.heap H locs → wp_MM_judge_175 Post I F → W p l e (headSpec (Cond.code y_MM_judge b_MM_judge 4 (some .boolean) :: TB) { frames := 4, cells := 0, slots := 0, locals := 96 }).room s m ([.ref (a 0), .int p1]).toArray below meth c H locs 0 0 Q (F0 m 175 ls []) := by
    intro I F H locs ls hl hP hS hw
    dsimp only [wp_MM_judge_175] at hw
    refine lv_aload_n hx hb dMM_judge_175 rfl (lv_at hl 0 rfl) ?_
    refine va_get (D := D) (v := .int (I 2)) (ci := 8) (C := "CodeJudgeModel") (T := T_MM) (N := 37) hx hb hts in_MM hown hK hP 0 mw_0 rfl 15 (by decide) (hts (.fieldLink "CodeJudgeModel" 113 "CodeJudgeModel" "fails" "Z") tw_4_80) (fun _ h9 => h9) rfl dMM_judge_176 ?_
    refine lv_if_ne (tgt := 186) hx hb dMM_judge_179 (by decide) (fun h6 => ?_) (fun h6 => ?_)
    · have hw := hw.1 h6
      refine lv_iconst (v := 0) hx hb dMM_judge_186 (by decide) ?_
      rw [hQ]
      exact W.zret (v := 0) hx hb hr rfl (fun t ht hW => ⟨⟨0, (I, F), rfl, hw, by subst ht; exact hP⟩, hS.F ht⟩) hS.2.2 dMM_judge_187
    · have hw := hw.2 h6
      refine lv_iconst (v := 1) hx hb dMM_judge_182 (by decide) ?_
      refine lv_goto (tgt := 187) hx hb dMM_judge_183 (by decide) ?_
      rw [hQ]
      exact W.zret (v := 1) hx hb hr rfl (fun t ht hW => ⟨⟨1, (I, F), rfl, hw, by subst ht; exact hP⟩, hS.F ht⟩) hS.2.2 dMM_judge_187
  have J110 : ∀ n : Nat, ∀ (x1 : Int32) (x2 : Int32) (I : SI) (F : SF) (H : Heap) (locs : List Loc) (ls : Array Slot), lv_has ls 4 [(0, .ref (a 0)), (1, .int x1), (2, .int x2)] → va_P D vwCl (mw a cI cZ I F) H → va_S (xA 26 a s.heap.size) s.heap H locs → wp_MM_judge_110 Post n x1 x2 I F → W p l e (headSpec (Cond.code y_MM_judge b_MM_judge 4 (some .boolean) :: TB) { frames := 4, cells := 0, slots := 0, locals := 96 }).room s m ([.ref (a 0), .int p1]).toArray below meth c H locs 0 0 Q (F0 m 110 ls []) := by
    intro n110
    induction n110 with
    | zero =>
      intro x1 x2 I F H locs ls hl hP hS hw
      exact False.elim hw
    | succ n110 ih110 =>
      have J172 : ∀ (x1 : Int32) (x2 : Int32) (I : SI) (F : SF) (H : Heap) (locs : List Loc) (ls : Array Slot), lv_has ls 4 [(0, .ref (a 0)), (1, .int x1), (2, .int x2)] → va_P D vwCl (mw a cI cZ I F) H → va_S (xA 26 a s.heap.size) s.heap H locs → wp_MM_judge_172 (wp_MM_judge_110 Post n110) Post x1 x2 I F → W p l e (headSpec (Cond.code y_MM_judge b_MM_judge 4 (some .boolean) :: TB) { frames := 4, cells := 0, slots := 0, locals := 96 }).room s m ([.ref (a 0), .int p1]).toArray below meth c H locs 0 0 Q (F0 m 172 ls []) := by
        intro x1 x2 I F H locs ls hl hP hS hw
        dsimp only [wp_MM_judge_172] at hw
        refine lv_goto (tgt := 110) hx hb dMM_judge_172 (by decide) ?_
        exact ih110 x1 x2 I F H locs ls (lv_sub hl [0, 1, 2] rfl) hP hS hw
      have J125 : ∀ n : Nat, ∀ (x1 : Int32) (x2 : Int32) (x3 : Int32) (I : SI) (F : SF) (H : Heap) (locs : List Loc) (ls : Array Slot), lv_has ls 4 [(0, .ref (a 0)), (1, .int x1), (2, .int x2), (3, .int x3)] → va_P D vwCl (mw a cI cZ I F) H → va_S (xA 26 a s.heap.size) s.heap H locs → wp_MM_judge_125 (wp_MM_judge_110 Post n110) Post n x1 x2 x3 I F → W p l e (headSpec (Cond.code y_MM_judge b_MM_judge 4 (some .boolean) :: TB) { frames := 4, cells := 0, slots := 0, locals := 96 }).room s m ([.ref (a 0), .int p1]).toArray below meth c H locs 0 0 Q (F0 m 125 ls []) := by
        intro n125
        induction n125 with
        | zero =>
          intro x1 x2 x3 I F H locs ls hl hP hS hw
          exact False.elim hw
        | succ n125 ih125 =>
          have J166 : ∀ (x1 : Int32) (x2 : Int32) (x3 : Int32) (I : SI) (F : SF) (H : Heap) (locs : List Loc) (ls : Array Slot), lv_has ls 4 [(0, .ref (a 0)), (1, .int x1), (2, .int x2), (3, .int x3)] → va_P D vwCl (mw a cI cZ I F) H → va_S (xA 26 a s.heap.size) s.heap H locs → wp_MM_judge_166 (wp_MM_judge_110 Post n110) (wp_MM_judge_125 (wp_MM_judge_110 Post n110) Post n125) Post x1 x2 x3 I F → W p l e (headSpec (Cond.code y_MM_judge b_MM_judge 4 (some .boolean) :: TB) { frames := 4, cells := 0, slots := 0, locals := 96 }).room s m ([.ref (a 0), .int p1]).toArray below meth c H locs 0 0 Q (F0 m 166 ls []) := by
            intro x1 x2 x3 I F H locs ls hl hP hS hw
            dsimp only [wp_MM_judge_166] at hw
            obtain ⟨x13, e_x13⟩ : ∃ z : Int32, z = x3 + 1 := ⟨_, rfl⟩
            have hw := hw x13 e_x13
            refine lv_iinc (k := 3) (v := x13) (lv' := [(3, .int x13), (0, .ref (a 0)), (1, .int x1), (2, .int x2)]) hx hb dMM_judge_166 hl rfl (e_x13 ▸ (by first | rfl | decide)) (by decide) rfl (fun ls hl => ?_)
            refine lv_goto (tgt := 125) hx hb dMM_judge_169 (by decide) ?_
            exact ih125 x1 x2 x13 I F H locs ls (lv_sub hl [1, 2, 3, 0] rfl) hP hS hw
          intro x1 x2 x3 I F H locs ls hl hP hS hw
          dsimp only [wp_MM_judge_125] at hw
          refine lv_iload_n hx hb dMM_judge_125 rfl (lv_at hl 3 rfl) ?_
          refine lv_aload_n hx hb dMM_judge_126 rfl (lv_at hl 0 rfl) ?_
          refine va_get (D := D) (v := .ref (a 7)) (ci := 8) (C := "CodeJudgeModel") (T := T_MM) (N := 37) hx hb hts in_MM hown hK hP 0 mw_0 rfl 7 (by decide) (hts (.fieldLink "CodeJudgeModel" 29 "CodeJudgeModel" "sizes" "[I") tw_4_73) (fun _ h9 => h9) rfl dMM_judge_127 ?_
          refine lv_iload_n hx hb dMM_judge_130 rfl (lv_at hl 1 rfl) ?_
          obtain ⟨h8, hw⟩ := hw
          refine va_iald hx hb hK hP 7 0 mw_7 rfl h8 dMM_judge_131 ?_
          refine lv_icmp_ge (tgt := 172) hx hb dMM_judge_132 (by decide) (fun h9 => ?_) (fun h9 => ?_)
          · have hw := hw.1 h9
            exact J172 x1 x2 I F H locs ls (lv_sub hl [0, 1, 2] rfl) hP hS hw
          · have hw := hw.2 h9
            refine lv_aload_n hx hb dMM_judge_135 rfl (lv_at hl 0 rfl) ?_
            refine va_get (D := D) (v := .int (I 2)) (ci := 8) (C := "CodeJudgeModel") (T := T_MM) (N := 37) hx hb hts in_MM hown hK hP 0 mw_0 rfl 15 (by decide) (hts (.fieldLink "CodeJudgeModel" 113 "CodeJudgeModel" "fails" "Z") tw_4_80) (fun _ h9 => h9) rfl dMM_judge_136 ?_
            refine lv_if_ne (tgt := 172) hx hb dMM_judge_139 (by decide) (fun h10 => ?_) (fun h10 => ?_)
            · have hw := hw.1 h10
              exact J172 x1 x2 I F H locs ls (lv_sub hl [0, 1, 2] rfl) hP hS hw
            · have hw := hw.2 h10
              refine lv_aload_n hx hb dMM_judge_142 rfl (lv_at hl 0 rfl) ?_
              refine va_get (D := D) (v := .ref (a 13)) (ci := 8) (C := "CodeJudgeModel") (T := T_MM) (N := 37) hx hb hts in_MM hown hK hP 0 mw_0 rfl 14 (by decide) (hts (.fieldLink "CodeJudgeModel" 47 "CodeJudgeModel" "fresh" "[Z") tw_4_79) (fun _ h9 => h9) rfl dMM_judge_143 ?_
              refine lv_iload_n hx hb dMM_judge_146 rfl (lv_at hl 3 rfl) ?_
              obtain ⟨h11, hw⟩ := hw
              refine va_zald hx hb hK hP 13 1 mw_13 rfl h11 dMM_judge_147 ?_
              refine lv_if_eq (tgt := 166) hx hb dMM_judge_148 (by decide) (fun h12 => ?_) (fun h12 => ?_)
              · have hw := hw.1 h12
                exact J166 x1 x2 x3 I F H locs ls (lv_sub hl [0, 1, 2, 3] rfl) hP hS hw
              · have hw := hw.2 h12
                refine lv_aload_n hx hb dMM_judge_151 rfl (lv_at hl 0 rfl) ?_
                refine va_get (D := D) (v := .ref (a 13)) (ci := 8) (C := "CodeJudgeModel") (T := T_MM) (N := 37) hx hb hts in_MM hown hK hP 0 mw_0 rfl 14 (by decide) (hts (.fieldLink "CodeJudgeModel" 47 "CodeJudgeModel" "fresh" "[Z") tw_4_79) (fun _ h9 => h9) rfl dMM_judge_152 ?_
                refine lv_iload_n hx hb dMM_judge_155 rfl (lv_at hl 3 rfl) ?_
                refine lv_iconst (v := 0) hx hb dMM_judge_156 (by decide) ?_
                obtain ⟨h14, hw⟩ := hw
                refine va_zast hx hb hK hP (mD hJ) hS 13 1 mw_13 rfl h14 dMM_judge_157 (fun H locs hP _ hS => ?_)
                have hP := mwa_13 hP
                refine lv_aload_n hx hb dMM_judge_158 rfl (lv_at hl 0 rfl) ?_
                refine lv_iload_n hx hb dMM_judge_159 rfl (lv_at hl 1 rfl) ?_
                refine lv_iload_n hx hb dMM_judge_160 rfl (lv_at hl 3 rfl) ?_
                obtain ⟨P15, hc15, hw⟩ := hw
                refine mc_v (va_runV (As := [.int x1, .int x3]) (rest := []) ⟨hx, hb, hml, hown, hts⟩ (c_MM_look l D a cI cZ hJ I (va_up F 13 (upd (F 13) x3.toNatClampNeg (vp_nar .boolean 0))) x1 x3 H.size P15 hc15) (cwV 2 hts (tb_V (C := "CodeJudgeModel") wc_MM_look tw_4_224 tw_4_226 tw_0_26 tw_1_9) rfl rfl rfl (by decide +kernel) ⟨Nat.le_of_ble_eq_true rfl, Nat.le_of_ble_eq_true rfl⟩) ⟨mP_bl, va_recv hK hP rfl mw_0, mP_at hP hK⟩ rfl rfl hl.1 rfl (lv_room (Nat.le_of_ble_eq_true rfl)) dMM_judge_161 ⟨Nat.le_of_ble_eq_true rfl, Nat.le_of_ble_eq_true rfl⟩) hS (fun I15 F15 H locs hP hp15 hS => ?_)
                have hw := hw I15 F15 hp15
                refine lv_iconst (v := 1) hx hb dMM_judge_164 (by decide) ?_
                refine lv_istore_n (lv' := [(2, .int 1), (0, .ref (a 0)), (1, .int x1), (3, .int x3)]) hx hb dMM_judge_165 rfl hl (by decide) rfl (fun ls hl => ?_)
                exact J166 x1 1 x3 I15 F15 H locs ls (lv_sub hl [1, 2, 0, 3] rfl) hP hS hw
      intro x1 x2 I F H locs ls hl hP hS hw
      dsimp only [wp_MM_judge_110] at hw
      refine lv_iload_n hx hb dMM_judge_110 rfl (lv_at hl 2 rfl) ?_
      refine lv_if_eq (tgt := 175) hx hb dMM_judge_111 (by decide) (fun h5 => ?_) (fun h5 => ?_)
      · have hw := hw.1 h5
        exact J175 I F H locs ls (lv_sub hl [0] rfl) hP hS hw
      · have hw := hw.2 h5
        refine lv_aload_n hx hb dMM_judge_114 rfl (lv_at hl 0 rfl) ?_
        refine va_get (D := D) (v := .int (I 2)) (ci := 8) (C := "CodeJudgeModel") (T := T_MM) (N := 37) hx hb hts in_MM hown hK hP 0 mw_0 rfl 15 (by decide) (hts (.fieldLink "CodeJudgeModel" 113 "CodeJudgeModel" "fails" "Z") tw_4_80) (fun _ h9 => h9) rfl dMM_judge_115 ?_
        refine lv_if_ne (tgt := 175) hx hb dMM_judge_118 (by decide) (fun h7 => ?_) (fun h7 => ?_)
        · have hw := hw.1 h7
          exact J175 I F H locs ls (lv_sub hl [0] rfl) hP hS hw
        · have hw := hw.2 h7
          refine lv_iconst (v := 0) hx hb dMM_judge_121 (by decide) ?_
          refine lv_istore_n (lv' := [(2, .int 0), (0, .ref (a 0)), (1, .int x1)]) hx hb dMM_judge_122 rfl hl (by decide) rfl (fun ls hl => ?_)
          refine lv_iconst (v := 0) hx hb dMM_judge_123 (by decide) ?_
          refine lv_istore_n (lv' := [(3, .int 0), (2, .int 0), (0, .ref (a 0)), (1, .int x1)]) hx hb dMM_judge_124 rfl hl (by decide) rfl (fun ls hl => ?_)
          obtain ⟨n125, hw⟩ := hw
          exact J125 n125 x1 0 0 I F H locs ls (lv_sub hl [2, 3, 1, 0] rfl) hP hS hw
  have J109 : ∀ (x1 : Int32) (s0 : Int32) (I : SI) (F : SF) (H : Heap) (locs : List Loc) (ls : Array Slot), lv_has ls 4 [(0, .ref (a 0)), (1, .int x1)] → va_P D vwCl (mw a cI cZ I F) H → va_S (xA 26 a s.heap.size) s.heap H locs → wp_MM_judge_109 Post x1 s0 I F → W p l e (headSpec (Cond.code y_MM_judge b_MM_judge 4 (some .boolean) :: TB) { frames := 4, cells := 0, slots := 0, locals := 96 }).room s m ([.ref (a 0), .int p1]).toArray below meth c H locs 0 0 Q (F0 m 109 ls [.int s0]) := by
    intro x1 s0 I F H locs ls hl hP hS hw
    dsimp only [wp_MM_judge_109] at hw
    refine lv_istore_n (lv' := [(2, .int s0), (0, .ref (a 0)), (1, .int x1)]) hx hb dMM_judge_109 rfl hl (by decide) rfl (fun ls hl => ?_)
    obtain ⟨n110, hw⟩ := hw
    exact J110 n110 x1 s0 I F H locs ls (lv_sub hl [1, 2, 0] rfl) hP hS hw
  have J40 : ∀ n : Nat, ∀ (x1 : Int32) (x2 : Int32) (I : SI) (F : SF) (H : Heap) (locs : List Loc) (ls : Array Slot), lv_has ls 4 [(0, .ref (a 0)), (1, .int x1), (2, .int x2)] → va_P D vwCl (mw a cI cZ I F) H → va_S (xA 26 a s.heap.size) s.heap H locs → wp_MM_judge_40 Post n x1 x2 I F → W p l e (headSpec (Cond.code y_MM_judge b_MM_judge 4 (some .boolean) :: TB) { frames := 4, cells := 0, slots := 0, locals := 96 }).room s m ([.ref (a 0), .int p1]).toArray below meth c H locs 0 0 Q (F0 m 40 ls []) := by
    intro n40
    induction n40 with
    | zero =>
      intro x1 x2 I F H locs ls hl hP hS hw
      exact False.elim hw
    | succ n40 ih40 =>
      have J84 : ∀ (x1 : Int32) (x2 : Int32) (s0 : Int32) (s1 : Int32) (I : SI) (F : SF) (H : Heap) (locs : List Loc) (ls : Array Slot), lv_has ls 4 [(0, .ref (a 0)), (1, .int x1), (2, .int x2)] → va_P D vwCl (mw a cI cZ I F) H → va_S (xA 26 a s.heap.size) s.heap H locs → wp_MM_judge_84 (wp_MM_judge_40 Post n40) Post x1 x2 s0 s1 I F → W p l e (headSpec (Cond.code y_MM_judge b_MM_judge 4 (some .boolean) :: TB) { frames := 4, cells := 0, slots := 0, locals := 96 }).room s m ([.ref (a 0), .int p1]).toArray below meth c H locs 0 0 Q (F0 m 84 ls [.int s0, .int s1, .ref (a 15)]) := by
        intro x1 x2 s0 s1 I F H locs ls hl hP hS hw
        dsimp only [wp_MM_judge_84] at hw
        obtain ⟨h20, hw⟩ := hw
        refine va_iast hx hb hK hP (mD hJ) hS 15 0 mw_15 rfl h20 dMM_judge_84 (fun H locs hP _ hS => ?_)
        have hP := mwa_15 hP
        obtain ⟨x21, e_x21⟩ : ∃ z : Int32, z = x2 + 1 := ⟨_, rfl⟩
        have hw := hw x21 e_x21
        refine lv_iinc (k := 2) (v := x21) (lv' := [(2, .int x21), (0, .ref (a 0)), (1, .int x1)]) hx hb dMM_judge_85 hl rfl (e_x21 ▸ (by first | rfl | decide)) (by decide) rfl (fun ls hl => ?_)
        refine lv_goto (tgt := 40) hx hb dMM_judge_88 (by decide) ?_
        exact ih40 x1 x21 I (va_up F 15 (upd (F 15) s1.toNatClampNeg s0)) H locs ls (lv_sub hl [1, 2, 0] rfl) hP hS hw
      intro x1 x2 I F H locs ls hl hP hS hw
      dsimp only [wp_MM_judge_40] at hw
      refine lv_iload_n hx hb dMM_judge_40 rfl (lv_at hl 2 rfl) ?_
      refine lv_bipush (v := 10) hx hb dMM_judge_41 (by decide) ?_
      refine lv_icmp_ge (tgt := 91) hx hb dMM_judge_43 (by decide) (fun h2 => ?_) (fun h2 => ?_)
      · have hw := hw.1 h2
        refine lv_aload_n hx hb dMM_judge_91 rfl (lv_at hl 0 rfl) ?_
        refine lv_iload_n hx hb dMM_judge_92 rfl (lv_at hl 1 rfl) ?_
        refine lv_iconst (v := 0) hx hb dMM_judge_93 (by decide) ?_
        obtain ⟨P3, hc3, hw⟩ := hw
        refine mc_v (va_runV (As := [.int x1, .int 0]) (rest := []) ⟨hx, hb, hml, hown, hts⟩ (c_MM_come l D a cI cZ hJ I F x1 0 H.size P3 hc3) (cwV 2 hts (tb_V (C := "CodeJudgeModel") wc_MM_come tw_4_220 tw_4_222 tw_0_25 tw_1_9) rfl rfl rfl (by decide +kernel) ⟨Nat.le_of_ble_eq_true rfl, Nat.le_of_ble_eq_true rfl⟩) ⟨mP_bl, va_recv hK hP rfl mw_0, mP_at hP hK⟩ rfl rfl hl.1 rfl (lv_room (Nat.le_of_ble_eq_true rfl)) dMM_judge_94 ⟨Nat.le_of_ble_eq_true rfl, Nat.le_of_ble_eq_true rfl⟩) hS (fun I3 F3 H locs hP hp3 hS => ?_)
        have hw := hw I3 F3 hp3
        refine lv_aload_n hx hb dMM_judge_97 rfl (lv_at hl 0 rfl) ?_
        refine va_get (D := D) (v := .int (I3 2)) (ci := 8) (C := "CodeJudgeModel") (T := T_MM) (N := 37) hx hb hts in_MM hown hK hP 0 mw_0 rfl 15 (by decide) (hts (.fieldLink "CodeJudgeModel" 113 "CodeJudgeModel" "fails" "Z") tw_4_80) (fun _ h9 => h9) rfl dMM_judge_98 ?_
        refine lv_if_ne (tgt := 108) hx hb dMM_judge_101 (by decide) (fun h4 => ?_) (fun h4 => ?_)
        · have hw := hw.1 h4
          refine lv_iconst (v := 0) hx hb dMM_judge_108 (by decide) ?_
          exact J109 x1 0 I3 F3 H locs ls (lv_sub hl [0, 1] rfl) hP hS hw
        · have hw := hw.2 h4
          refine lv_iconst (v := 1) hx hb dMM_judge_104 (by decide) ?_
          refine lv_goto (tgt := 109) hx hb dMM_judge_105 (by decide) ?_
          exact J109 x1 1 I3 F3 H locs ls (lv_sub hl [0, 1] rfl) hP hS hw
      · have hw := hw.2 h2
        refine lv_aload_n hx hb dMM_judge_46 rfl (lv_at hl 0 rfl) ?_
        refine va_get (D := D) (v := .ref (a 15)) (ci := 8) (C := "CodeJudgeModel") (T := T_MM) (N := 37) hx hb hts in_MM hown hK hP 0 mw_0 rfl 18 (by decide) (hts (.fieldLink "CodeJudgeModel" 53 "CodeJudgeModel" "holds" "[I") tw_4_83) (fun _ h9 => h9) rfl dMM_judge_47 ?_
        refine lv_iload_n hx hb dMM_judge_50 rfl (lv_at hl 2 rfl) ?_
        refine lv_iload_n hx hb dMM_judge_51 rfl (lv_at hl 2 rfl) ?_
        refine lv_aload_n hx hb dMM_judge_52 rfl (lv_at hl 0 rfl) ?_
        refine va_get (D := D) (v := .ref (a 2)) (ci := 8) (C := "CodeJudgeModel") (T := T_MM) (N := 37) hx hb hts in_MM hown hK hP 0 mw_0 rfl 2 (by decide) (hts (.fieldLink "CodeJudgeModel" 13 "CodeJudgeModel" "parameters" "[I") tw_4_68) (fun _ h9 => h9) rfl dMM_judge_53 ?_
        refine lv_iload_n hx hb dMM_judge_56 rfl (lv_at hl 1 rfl) ?_
        obtain ⟨h16, hw⟩ := hw
        refine va_iald hx hb hK hP 2 0 mw_2 rfl h16 dMM_judge_57 ?_
        refine lv_icmp_lt (tgt := 65) hx hb dMM_judge_58 (by decide) (fun h17 => ?_) (fun h17 => ?_)
        · have hw := hw.1 h17
          refine lv_aload_n hx hb dMM_judge_65 rfl (lv_at hl 0 rfl) ?_
          refine va_get (D := D) (v := .ref (a 3)) (ci := 8) (C := "CodeJudgeModel") (T := T_MM) (N := 37) hx hb hts in_MM hown hK hP 0 mw_0 rfl 3 (by decide) (hts (.fieldLink "CodeJudgeModel" 17 "CodeJudgeModel" "arrays" "[I") tw_4_69) (fun _ h9 => h9) rfl dMM_judge_66 ?_
          refine lv_iload_n hx hb dMM_judge_69 rfl (lv_at hl 1 rfl) ?_
          obtain ⟨h18, hw⟩ := hw
          refine va_iald hx hb hK hP 3 0 mw_3 rfl h18 dMM_judge_70 ?_
          refine lv_iload_n hx hb dMM_judge_71 rfl (lv_at hl 2 rfl) ?_
          refine lv_ishr hx hb dMM_judge_72 ?_
          refine lv_iconst (v := 1) hx hb dMM_judge_73 (by decide) ?_
          refine lv_iand hx hb dMM_judge_74 ?_
          refine lv_iconst (v := 1) hx hb dMM_judge_75 (by decide) ?_
          refine lv_icmp_ne (tgt := 83) hx hb dMM_judge_76 (by decide) (fun h19 => ?_) (fun h19 => ?_)
          · have hw := hw.1 h19
            refine lv_iconst (v := 1) hx hb dMM_judge_83 (by decide) ?_
            exact J84 x1 x2 1 x2 I F H locs ls (lv_sub hl [0, 1, 2] rfl) hP hS hw
          · have hw := hw.2 h19
            refine lv_iconst (v := 2) hx hb dMM_judge_79 (by decide) ?_
            refine lv_goto (tgt := 84) hx hb dMM_judge_80 (by decide) ?_
            exact J84 x1 x2 2 x2 I F H locs ls (lv_sub hl [0, 1, 2] rfl) hP hS hw
        · have hw := hw.2 h17
          refine lv_iconst (v := 0) hx hb dMM_judge_61 (by decide) ?_
          refine lv_goto (tgt := 84) hx hb dMM_judge_62 (by decide) ?_
          exact J84 x1 x2 0 x2 I F H locs ls (lv_sub hl [0, 1, 2] rfl) hP hS hw
  have J7 : ∀ n : Nat, ∀ (x1 : Int32) (x2 : Int32) (I : SI) (F : SF) (H : Heap) (locs : List Loc) (ls : Array Slot), lv_has ls 4 [(0, .ref (a 0)), (1, .int x1), (2, .int x2)] → va_P D vwCl (mw a cI cZ I F) H → va_S (xA 26 a s.heap.size) s.heap H locs → wp_MM_judge_7 Post n x1 x2 I F → W p l e (headSpec (Cond.code y_MM_judge b_MM_judge 4 (some .boolean) :: TB) { frames := 4, cells := 0, slots := 0, locals := 96 }).room s m ([.ref (a 0), .int p1]).toArray below meth c H locs 0 0 Q (F0 m 7 ls []) := by
    intro n7
    induction n7 with
    | zero =>
      intro x1 x2 I F H locs ls hl hP hS hw
      exact False.elim hw
    | succ n7 ih7 =>
      intro x1 x2 I F H locs ls hl hP hS hw
      dsimp only [wp_MM_judge_7] at hw
      refine lv_iload_n hx hb dMM_judge_7 rfl (lv_at hl 2 rfl) ?_
      refine lv_bipush (v := 120) hx hb dMM_judge_8 (by decide) ?_
      refine lv_icmp_ge (tgt := 33) hx hb dMM_judge_10 (by decide) (fun h1 => ?_) (fun h1 => ?_)
      · have hw := hw.1 h1
        refine lv_aload_n hx hb dMM_judge_33 rfl (lv_at hl 0 rfl) ?_
        refine lv_iconst (v := 0) hx hb dMM_judge_34 (by decide) ?_
        refine va_put (D := D) (ci := 8) (v := .int 0) (ty := .int) (C := "CodeJudgeModel") (T := T_MM) (N := 37) hx hb hts in_MM ty_MM ok_MM nm_MM hown hK hP (mD hJ) hS 0 mw_0 rfl 16 (by decide) (hts (.fieldLink "CodeJudgeModel" 110 "CodeJudgeModel" "high" "I") tw_4_81) (fun _ h9 => h9) rfl (by decide +kernel) rfl rfl (Nat.le_of_ble_eq_true rfl) dMM_judge_35 (fun H locs hP _ hS => ?_)
        have hP := mwp_3 hP
        refine lv_iconst (v := 0) hx hb dMM_judge_38 (by decide) ?_
        refine lv_istore_n (lv' := [(2, .int 0), (0, .ref (a 0)), (1, .int x1)]) hx hb dMM_judge_39 rfl hl (by decide) rfl (fun ls hl => ?_)
        obtain ⟨n40, hw⟩ := hw
        exact J40 n40 x1 0 (va_up I 3 0) F H locs ls (lv_sub hl [1, 2, 0] rfl) hP hS hw
      · have hw := hw.2 h1
        refine lv_aload_n hx hb dMM_judge_13 rfl (lv_at hl 0 rfl) ?_
        refine va_get (D := D) (v := .ref (a 10)) (ci := 8) (C := "CodeJudgeModel") (T := T_MM) (N := 37) hx hb hts in_MM hown hK hP 0 mw_0 rfl 11 (by decide) (hts (.fieldLink "CodeJudgeModel" 38 "CodeJudgeModel" "heights" "[I") tw_4_76) (fun _ h9 => h9) rfl dMM_judge_14 ?_
        refine lv_iload_n hx hb dMM_judge_17 rfl (lv_at hl 2 rfl) ?_
        refine lv_iconst (v := (-1)) hx hb dMM_judge_18 (by decide) ?_
        obtain ⟨h22, hw⟩ := hw
        refine va_iast hx hb hK hP (mD hJ) hS 10 0 mw_10 rfl h22 dMM_judge_19 (fun H locs hP _ hS => ?_)
        have hP := mwa_10 hP
        refine lv_aload_n hx hb dMM_judge_20 rfl (lv_at hl 0 rfl) ?_
        refine va_get (D := D) (v := .ref (a 13)) (ci := 8) (C := "CodeJudgeModel") (T := T_MM) (N := 37) hx hb hts in_MM hown hK hP 0 mw_0 rfl 14 (by decide) (hts (.fieldLink "CodeJudgeModel" 47 "CodeJudgeModel" "fresh" "[Z") tw_4_79) (fun _ h9 => h9) rfl dMM_judge_21 ?_
        refine lv_iload_n hx hb dMM_judge_24 rfl (lv_at hl 2 rfl) ?_
        refine lv_iconst (v := 0) hx hb dMM_judge_25 (by decide) ?_
        obtain ⟨h23, hw⟩ := hw
        refine va_zast hx hb hK hP (mD hJ) hS 13 1 mw_13 rfl h23 dMM_judge_26 (fun H locs hP _ hS => ?_)
        have hP := mwa_13 hP
        obtain ⟨x24, e_x24⟩ : ∃ z : Int32, z = x2 + 1 := ⟨_, rfl⟩
        have hw := hw x24 e_x24
        refine lv_iinc (k := 2) (v := x24) (lv' := [(2, .int x24), (0, .ref (a 0)), (1, .int x1)]) hx hb dMM_judge_27 hl rfl (e_x24 ▸ (by first | rfl | decide)) (by decide) rfl (fun ls hl => ?_)
        refine lv_goto (tgt := 7) hx hb dMM_judge_30 (by decide) ?_
        exact ih7 x1 x24 I (va_up (va_up F 10 (upd (F 10) x2.toNatClampNeg (-1))) 13 (upd (F 13) x2.toNatClampNeg (vp_nar .boolean 0))) H locs ls (lv_sub hl [1, 2, 0] rfl) hP hS hw
  suffices hM : ∀ (H : Heap) (locs : List Loc), va_P D vwCl (mw a cI cZ I F) H → va_S (xA 26 a s.heap.size) s.heap H locs → W p l e (headSpec (Cond.code y_MM_judge b_MM_judge 4 (some .boolean) :: TB) { frames := 4, cells := 0, slots := 0, locals := 96 }).room s m ([.ref (a 0), .int p1]).toArray below meth c H locs 0 0 (Q) (F0 m 0 ls []) from hM s.heap [] hP va_S.rf
  clear hP
  intro H locs hP hS
  dsimp only [wp_MM_judge] at hw
  refine lv_aload_n hx hb dMM_judge_0 rfl (lv_at hl 0 rfl) ?_
  refine lv_iconst (v := 0) hx hb dMM_judge_1 (by decide) ?_
  refine va_put (D := D) (ci := 8) (v := .int 0) (ty := .boolean) (C := "CodeJudgeModel") (T := T_MM) (N := 37) hx hb hts in_MM ty_MM ok_MM nm_MM hown hK hP (mD hJ) hS 0 mw_0 rfl 15 (by decide) (hts (.fieldLink "CodeJudgeModel" 113 "CodeJudgeModel" "fails" "Z") tw_4_80) (fun _ h9 => h9) rfl (by decide +kernel) rfl rfl (Nat.le_of_ble_eq_true rfl) dMM_judge_2 (fun H locs hP _ hS => ?_)
  have hP := mwp_2 hP
  refine lv_iconst (v := 0) hx hb dMM_judge_5 (by decide) ?_
  refine lv_istore_n (lv' := [(2, .int 0), (0, .ref (a 0)), (1, .int p1)]) hx hb dMM_judge_6 rfl hl (by decide) rfl (fun ls hl => ?_)
  obtain ⟨n7, hw⟩ := hw
  exact J7 n7 p1 0 (va_up I 2 0) F H locs ls (lv_sub hl [1, 2, 0] rfl) hP hS hw
def wp_MM_allGood_172 (K34 : Int32 → Int32 → SI → SF → Prop) (K43 : Int32 → Int32 → Int32 → SI → SF → Prop) (Post : Int32 → SI → SF → Prop) (x2 : Int32) (x3 : Int32) (x4 : Int32) (I : SI) (F : SF) : Prop := ∀ x9 : Int32, x9 = x4 + 1 → (K43 x2 x3 x9 I F)
def wp_MM_allGood_166 (K34 : Int32 → Int32 → SI → SF → Prop) (K43 : Int32 → Int32 → Int32 → SI → SF → Prop) (K92 : Int32 → Int32 → Int32 → Int32 → SI → SF → Prop) (Post : Int32 → SI → SF → Prop) (x2 : Int32) (x3 : Int32) (x4 : Int32) (x5 : Int32) (I : SI) (F : SF) : Prop := ∀ x15 : Int32, x15 = x5 + 1 → (K92 x2 x3 x4 x15 I F)
def wp_MM_allGood_92 (K34 : Int32 → Int32 → SI → SF → Prop) (K43 : Int32 → Int32 → Int32 → SI → SF → Prop) (Post : Int32 → SI → SF → Prop) : Nat → Int32 → Int32 → Int32 → Int32 → SI → SF → Prop
  | 0 => fun _ _ _ _ _ _ => False
  | n + 1 => fun x2 x3 x4 x5 I F => vp_in x4 8 ∧ ((((F 7) x4.toNatClampNeg) ≤ x5 → (wp_MM_allGood_172 K34 K43 Post x2 x3 x4 I F)) ∧ (¬ ((F 7) x4.toNatClampNeg) ≤ x5 → ((x2 = 0 → (wp_MM_allGood_172 K34 K43 Post x2 x3 x4 I F)) ∧ (¬ x2 = 0 → (vp_in x4 8 ∧ ((((F 16) x4.toNatClampNeg) = 0 → (wp_MM_allGood_172 K34 K43 Post x2 x3 x4 I F)) ∧ (¬ ((F 16) x4.toNatClampNeg) = 0 → (vp_in x5 120 ∧ ((((F 10) x5.toNatClampNeg) = (-1) → (wp_MM_allGood_166 K34 K43 (wp_MM_allGood_92 K34 K43 Post n) Post x2 x3 x4 x5 I F)) ∧ (¬ ((F 10) x5.toNatClampNeg) = (-1) → (vp_in (((120 : Int32) * x4) + x5) 960 ∧ ((¬ ((F 8) (((120 : Int32) * x4) + x5 : Int32).toNatClampNeg) = 23 → (wp_MM_allGood_166 K34 K43 (wp_MM_allGood_92 K34 K43 Post n) Post x2 x3 x4 x5 I F)) ∧ (((F 8) (((120 : Int32) * x4) + x5 : Int32).toNatClampNeg) = 23 → (vp_in (((120 : Int32) * x4) + x5) 960 ∧ (vp_in ((F 9) (((120 : Int32) * x4) + x5 : Int32).toNatClampNeg) 8 ∧ (wp_MM_allGood_166 K34 K43 (wp_MM_allGood_92 K34 K43 Post n) Post x2 x3 x4 x5 I (va_up F 16 (upd (F 16) ((F 9) (((120 : Int32) * x4) + x5 : Int32).toNatClampNeg : Int32).toNatClampNeg (vp_nar .boolean 1)))))))))))))))))))
def wp_MM_allGood_88 (K34 : Int32 → Int32 → SI → SF → Prop) (K43 : Int32 → Int32 → Int32 → SI → SF → Prop) (Post : Int32 → SI → SF → Prop) (x3 : Int32) (x4 : Int32) (s0 : Int32) (I : SI) (F : SF) : Prop := ∃ q92, wp_MM_allGood_92 K34 K43 Post q92 s0 x3 x4 0 I F
def wp_MM_allGood_87 (K34 : Int32 → Int32 → SI → SF → Prop) (K43 : Int32 → Int32 → Int32 → SI → SF → Prop) (Post : Int32 → SI → SF → Prop) (x3 : Int32) (x4 : Int32) (I : SI) (F : SF) : Prop := wp_MM_allGood_88 K34 K43 Post x3 x4 0 I F
def wp_MM_allGood_83 (K34 : Int32 → Int32 → SI → SF → Prop) (K43 : Int32 → Int32 → Int32 → SI → SF → Prop) (Post : Int32 → SI → SF → Prop) (x3 : Int32) (x4 : Int32) (I : SI) (F : SF) : Prop := wp_MM_allGood_88 K34 K43 Post x3 x4 1 I F
def wp_MM_allGood_43 (K34 : Int32 → Int32 → SI → SF → Prop) (Post : Int32 → SI → SF → Prop) : Nat → Int32 → Int32 → Int32 → SI → SF → Prop
  | 0 => fun _ _ _ _ _ => False
  | n + 1 => fun x2 x3 x4 I F => (8 ≤ x4 → (∀ x5 : Int32, x5 = x3 + 1 → (K34 x2 x5 I F))) ∧ (¬ 8 ≤ x4 → ((x2 = 0 → (wp_MM_allGood_87 K34 (wp_MM_allGood_43 K34 Post n) Post x3 x4 I F)) ∧ (¬ x2 = 0 → (vp_in x4 8 ∧ ((((F 16) x4.toNatClampNeg) = 0 → (wp_MM_allGood_83 K34 (wp_MM_allGood_43 K34 Post n) Post x3 x4 I F)) ∧ (¬ ((F 16) x4.toNatClampNeg) = 0 → (vp_in x4 8 ∧ ((((F 1) x4.toNatClampNeg) = 0 → (wp_MM_allGood_87 K34 (wp_MM_allGood_43 K34 Post n) Post x3 x4 I F)) ∧ (¬ ((F 1) x4.toNatClampNeg) = 0 → (∃ P24 : Int32 → SI → SF → Prop, wp_MM_judge x4 I F P24 ∧ ∀ r24 I24 F24, P24 r24 I24 F24 → ((r24 = 0 → (wp_MM_allGood_87 K34 (wp_MM_allGood_43 K34 Post n) Post x3 x4 I24 F24)) ∧ (¬ r24 = 0 → (wp_MM_allGood_83 K34 (wp_MM_allGood_43 K34 Post n) Post x3 x4 I24 F24)))))))))))))
def wp_MM_allGood_34 (Post : Int32 → SI → SF → Prop) : Nat → Int32 → Int32 → SI → SF → Prop
  | 0 => fun _ _ _ _ => False
  | n + 1 => fun x2 x3 I F => (8 ≤ x3 → (bo x2 ∧ Post x2 I F)) ∧ (¬ 8 ≤ x3 → (∃ q43, wp_MM_allGood_43 (wp_MM_allGood_34 Post n) Post q43 x2 x3 0 I F))
def wp_MM_allGood_23 (K2 : Int32 → Int32 → SI → SF → Prop) (Post : Int32 → SI → SF → Prop) (x1 : Int32) (x2 : Int32) (s0 : Int32) (s1 : Int32) (I : SI) (F : SF) : Prop := vp_in s1 8 ∧ (∀ x28 : Int32, x28 = x2 + 1 → (K2 x1 x28 I (va_up F 16 (upd (F 16) s1.toNatClampNeg (vp_nar .boolean s0)))))
def wp_MM_allGood_2 (Post : Int32 → SI → SF → Prop) : Nat → Int32 → Int32 → SI → SF → Prop
  | 0 => fun _ _ _ _ => False
  | n + 1 => fun x1 x2 I F => (8 ≤ x2 → (∃ q34, wp_MM_allGood_34 Post q34 1 0 I F)) ∧ (¬ 8 ≤ x2 → ((¬ x2 = x1 → (wp_MM_allGood_23 (wp_MM_allGood_2 Post n) Post x1 x2 0 x2 I F)) ∧ (x2 = x1 → (wp_MM_allGood_23 (wp_MM_allGood_2 Post n) Post x1 x2 1 x2 I F))))
def wp_MM_allGood (p1 : Int32) (I : SI) (F : SF) (Post : Int32 → SI → SF → Prop) : Prop := ∃ q2, wp_MM_allGood_2 Post q2 p1 0 I F
set_option maxHeartbeats 4000000 in
set_option maxRecDepth 100000 in
theorem c_MM_allGood (l : Launch) (D : va_G) (a : Nat → Nat) (cI cZ : ClassId) (hJ : xJ 26 a) (I : SI) (F : SF) (p1 : Int32) (sz : Nat) (Post : Int32 → SI → SF → Prop) (hw : wp_MM_allGood p1 I F Post) : Met l y_MM_allGood (Cond.code y_MM_allGood b_MM_allGood 6 (some .boolean) :: TB) { frames := 5, cells := 0, slots := 0, locals := 119 } (va_Pc [.ref (a 0), .int p1] (mP D a cI cZ I F sz)) (va_Qi (fun r (u : SI × SF) => Post r u.1 u.2) (fun u t => va_P D vwCl (mw a cI cZ u.1 u.2) t.heap) (xA 26 a sz)) 0 0 (xA 26 a sz) := by
  refine Met.ofW (cc := b_MM_allGood) (maxL := 6) (ret := (some .boolean)) (by decide) rfl ?_
  intro p e s m args below meth c s₁ B hml hv
  obtain ⟨rfl, rfl, hP, hK⟩ := hv
  have hx := B.exec
  have hb := B.bytes
  have hr := B.returns
  have hts : ∀ w ∈ TB, w.before _ s = true := fun w h => atoms_spec (ws := Cond.code y_MM_allGood b_MM_allGood 6 (some .boolean) :: TB) B.pre w (List.mem_cons_of_mem _ h)
  have hown : s.vm.findClass "CodeJudgeModel" = some m.cls := findClass_of_methodNamed B.named
  have hlocks := B.notSynchronized
  have hl := lv_entry ([.ref (a 0), .int p1]) (n := 6) (Nat.le_of_ble_eq_true rfl)
  rw [lg_entry_eq]
  generalize (lg_sl ([.ref (a 0), .int p1]) ++ List.replicate (6 - (lg_sl ([.ref (a 0), .int p1])).length) Slot.unset).toArray = ls at hl ⊢
  have hl : lv_has ls 6 [(0, .ref (a 0)), (1, .int p1)] := hl
  obtain ⟨Q, hQ⟩ : ∃ Q, Q = MQ below (va_Qi (fun r (u : SI × SF) => Post r u.1 u.2) (fun u t => va_P D vwCl (mw a cI cZ u.1 u.2) t.heap) (xA 26 a s.heap.size)) ([.ref (a 0), .int p1]).toArray s 0 0 (xA 26 a s.heap.size) := ⟨_, rfl⟩
  rw [← hQ]
  have J34 : ∀ n : Nat, ∀ (x2 : Int32) (x3 : Int32) (I : SI) (F : SF) (H : Heap) (locs : List Loc) (ls : Array Slot), lv_has ls 6 [(0, .ref (a 0)), (2, .int x2), (3, .int x3)] → va_P D vwCl (mw a cI cZ I F) H → va_S (xA 26 a s.heap.size) s.heap H locs → wp_MM_allGood_34 Post n x2 x3 I F → W p l e (headSpec (Cond.code y_MM_allGood b_MM_allGood 6 (some .boolean) :: TB) { frames := 5, cells := 0, slots := 0, locals := 119 }).room s m ([.ref (a 0), .int p1]).toArray below meth c H locs 0 0 Q (F0 m 34 ls []) := by
    intro n34
    induction n34 with
    | zero =>
      intro x2 x3 I F H locs ls hl hP hS hw
      exact False.elim hw
    | succ n34 ih34 =>
      have J43 : ∀ n : Nat, ∀ (x2 : Int32) (x3 : Int32) (x4 : Int32) (I : SI) (F : SF) (H : Heap) (locs : List Loc) (ls : Array Slot), lv_has ls 6 [(0, .ref (a 0)), (2, .int x2), (3, .int x3), (4, .int x4)] → va_P D vwCl (mw a cI cZ I F) H → va_S (xA 26 a s.heap.size) s.heap H locs → wp_MM_allGood_43 (wp_MM_allGood_34 Post n34) Post n x2 x3 x4 I F → W p l e (headSpec (Cond.code y_MM_allGood b_MM_allGood 6 (some .boolean) :: TB) { frames := 5, cells := 0, slots := 0, locals := 119 }).room s m ([.ref (a 0), .int p1]).toArray below meth c H locs 0 0 Q (F0 m 43 ls []) := by
        intro n43
        induction n43 with
        | zero =>
          intro x2 x3 x4 I F H locs ls hl hP hS hw
          exact False.elim hw
        | succ n43 ih43 =>
          have J172 : ∀ (x2 : Int32) (x3 : Int32) (x4 : Int32) (I : SI) (F : SF) (H : Heap) (locs : List Loc) (ls : Array Slot), lv_has ls 6 [(0, .ref (a 0)), (2, .int x2), (3, .int x3), (4, .int x4)] → va_P D vwCl (mw a cI cZ I F) H → va_S (xA 26 a s.heap.size) s.heap H locs → wp_MM_allGood_172 (wp_MM_allGood_34 Post n34) (wp_MM_allGood_43 (wp_MM_allGood_34 Post n34) Post n43) Post x2 x3 x4 I F → W p l e (headSpec (Cond.code y_MM_allGood b_MM_allGood 6 (some .boolean) :: TB) { frames := 5, cells := 0, slots := 0, locals := 119 }).room s m ([.ref (a 0), .int p1]).toArray below meth c H locs 0 0 Q (F0 m 172 ls []) := by
            intro x2 x3 x4 I F H locs ls hl hP hS hw
            dsimp only [wp_MM_allGood_172] at hw
            obtain ⟨x9, e_x9⟩ : ∃ z : Int32, z = x4 + 1 := ⟨_, rfl⟩
            have hw := hw x9 e_x9
            refine lv_iinc (k := 3) (v := x9) (lv' := [(4, .int x9), (0, .ref (a 0)), (2, .int x2), (3, .int x3)]) hx hb dMM_allGood_172 hl rfl (e_x9 ▸ (by first | rfl | decide)) (by decide) rfl (fun ls hl => ?_)
            refine lv_goto (tgt := 43) hx hb dMM_allGood_175 (by decide) ?_
            exact ih43 x2 x3 x9 I F H locs ls (lv_sub hl [1, 2, 3, 0] rfl) hP hS hw
          have J92 : ∀ n : Nat, ∀ (x2 : Int32) (x3 : Int32) (x4 : Int32) (x5 : Int32) (I : SI) (F : SF) (H : Heap) (locs : List Loc) (ls : Array Slot), lv_has ls 6 [(0, .ref (a 0)), (2, .int x2), (3, .int x3), (4, .int x4), (5, .int x5)] → va_P D vwCl (mw a cI cZ I F) H → va_S (xA 26 a s.heap.size) s.heap H locs → wp_MM_allGood_92 (wp_MM_allGood_34 Post n34) (wp_MM_allGood_43 (wp_MM_allGood_34 Post n34) Post n43) Post n x2 x3 x4 x5 I F → W p l e (headSpec (Cond.code y_MM_allGood b_MM_allGood 6 (some .boolean) :: TB) { frames := 5, cells := 0, slots := 0, locals := 119 }).room s m ([.ref (a 0), .int p1]).toArray below meth c H locs 0 0 Q (F0 m 92 ls []) := by
            intro n92
            induction n92 with
            | zero =>
              intro x2 x3 x4 x5 I F H locs ls hl hP hS hw
              exact False.elim hw
            | succ n92 ih92 =>
              have J166 : ∀ (x2 : Int32) (x3 : Int32) (x4 : Int32) (x5 : Int32) (I : SI) (F : SF) (H : Heap) (locs : List Loc) (ls : Array Slot), lv_has ls 6 [(0, .ref (a 0)), (2, .int x2), (3, .int x3), (4, .int x4), (5, .int x5)] → va_P D vwCl (mw a cI cZ I F) H → va_S (xA 26 a s.heap.size) s.heap H locs → wp_MM_allGood_166 (wp_MM_allGood_34 Post n34) (wp_MM_allGood_43 (wp_MM_allGood_34 Post n34) Post n43) (wp_MM_allGood_92 (wp_MM_allGood_34 Post n34) (wp_MM_allGood_43 (wp_MM_allGood_34 Post n34) Post n43) Post n92) Post x2 x3 x4 x5 I F → W p l e (headSpec (Cond.code y_MM_allGood b_MM_allGood 6 (some .boolean) :: TB) { frames := 5, cells := 0, slots := 0, locals := 119 }).room s m ([.ref (a 0), .int p1]).toArray below meth c H locs 0 0 Q (F0 m 166 ls []) := by
                intro x2 x3 x4 x5 I F H locs ls hl hP hS hw
                dsimp only [wp_MM_allGood_166] at hw
                obtain ⟨x15, e_x15⟩ : ∃ z : Int32, z = x5 + 1 := ⟨_, rfl⟩
                have hw := hw x15 e_x15
                refine lv_iinc (k := 4) (v := x15) (lv' := [(5, .int x15), (0, .ref (a 0)), (2, .int x2), (3, .int x3), (4, .int x4)]) hx hb dMM_allGood_166 hl rfl (e_x15 ▸ (by first | rfl | decide)) (by decide) rfl (fun ls hl => ?_)
                refine lv_goto (tgt := 92) hx hb dMM_allGood_169 (by decide) ?_
                exact ih92 x2 x3 x4 x15 I F H locs ls (lv_sub hl [1, 2, 3, 4, 0] rfl) hP hS hw
              intro x2 x3 x4 x5 I F H locs ls hl hP hS hw
              dsimp only [wp_MM_allGood_92] at hw
              refine lv_iload hx hb dMM_allGood_92 (lv_at hl 4 rfl) ?_
              refine lv_aload_n hx hb dMM_allGood_94 rfl (lv_at hl 0 rfl) ?_
              refine va_get (D := D) (v := .ref (a 7)) (ci := 8) (C := "CodeJudgeModel") (T := T_MM) (N := 37) hx hb hts in_MM hown hK hP 0 mw_0 rfl 7 (by decide) (hts (.fieldLink "CodeJudgeModel" 29 "CodeJudgeModel" "sizes" "[I") tw_4_73) (fun _ h9 => h9) rfl dMM_allGood_95 ?_
              refine lv_iload hx hb dMM_allGood_98 (lv_at hl 3 rfl) ?_
              obtain ⟨h7, hw⟩ := hw
              refine va_iald hx hb hK hP 7 0 mw_7 rfl h7 dMM_allGood_100 ?_
              refine lv_icmp_ge (tgt := 172) hx hb dMM_allGood_101 (by decide) (fun h8 => ?_) (fun h8 => ?_)
              · have hw := hw.1 h8
                exact J172 x2 x3 x4 I F H locs ls (lv_sub hl [0, 1, 2, 3] rfl) hP hS hw
              · have hw := hw.2 h8
                refine lv_iload_n hx hb dMM_allGood_104 rfl (lv_at hl 1 rfl) ?_
                refine lv_if_eq (tgt := 172) hx hb dMM_allGood_105 (by decide) (fun h10 => ?_) (fun h10 => ?_)
                · have hw := hw.1 h10
                  exact J172 x2 x3 x4 I F H locs ls (lv_sub hl [0, 1, 2, 3] rfl) hP hS hw
                · have hw := hw.2 h10
                  refine lv_aload_n hx hb dMM_allGood_108 rfl (lv_at hl 0 rfl) ?_
                  refine va_get (D := D) (v := .ref (a 16)) (ci := 8) (C := "CodeJudgeModel") (T := T_MM) (N := 37) hx hb hts in_MM hown hK hP 0 mw_0 rfl 19 (by decide) (hts (.fieldLink "CodeJudgeModel" 56 "CodeJudgeModel" "called" "[Z") tw_4_84) (fun _ h9 => h9) rfl dMM_allGood_109 ?_
                  refine lv_iload hx hb dMM_allGood_112 (lv_at hl 3 rfl) ?_
                  obtain ⟨h11, hw⟩ := hw
                  refine va_zald hx hb hK hP 16 1 mw_16 rfl h11 dMM_allGood_114 ?_
                  refine lv_if_eq (tgt := 172) hx hb dMM_allGood_115 (by decide) (fun h12 => ?_) (fun h12 => ?_)
                  · have hw := hw.1 h12
                    exact J172 x2 x3 x4 I F H locs ls (lv_sub hl [0, 1, 2, 3] rfl) hP hS hw
                  · have hw := hw.2 h12
                    refine lv_aload_n hx hb dMM_allGood_118 rfl (lv_at hl 0 rfl) ?_
                    refine va_get (D := D) (v := .ref (a 10)) (ci := 8) (C := "CodeJudgeModel") (T := T_MM) (N := 37) hx hb hts in_MM hown hK hP 0 mw_0 rfl 11 (by decide) (hts (.fieldLink "CodeJudgeModel" 38 "CodeJudgeModel" "heights" "[I") tw_4_76) (fun _ h9 => h9) rfl dMM_allGood_119 ?_
                    refine lv_iload hx hb dMM_allGood_122 (lv_at hl 4 rfl) ?_
                    obtain ⟨h13, hw⟩ := hw
                    refine va_iald hx hb hK hP 10 0 mw_10 rfl h13 dMM_allGood_124 ?_
                    refine lv_iconst (v := (-1)) hx hb dMM_allGood_125 (by decide) ?_
                    refine lv_icmp_eq (tgt := 166) hx hb dMM_allGood_126 (by decide) (fun h14 => ?_) (fun h14 => ?_)
                    · have hw := hw.1 h14
                      exact J166 x2 x3 x4 x5 I F H locs ls (lv_sub hl [0, 1, 2, 3, 4] rfl) hP hS hw
                    · have hw := hw.2 h14
                      refine lv_aload_n hx hb dMM_allGood_129 rfl (lv_at hl 0 rfl) ?_
                      refine va_get (D := D) (v := .ref (a 8)) (ci := 8) (C := "CodeJudgeModel") (T := T_MM) (N := 37) hx hb hts in_MM hown hK hP 0 mw_0 rfl 8 (by decide) (hts (.fieldLink "CodeJudgeModel" 32 "CodeJudgeModel" "orders" "[I") tw_4_74) (fun _ h9 => h9) rfl dMM_allGood_130 ?_
                      refine lv_bipush (v := 120) hx hb dMM_allGood_133 (by decide) ?_
                      refine lv_iload hx hb dMM_allGood_135 (lv_at hl 3 rfl) ?_
                      refine lv_imul hx hb dMM_allGood_137 ?_
                      refine lv_iload hx hb dMM_allGood_138 (lv_at hl 4 rfl) ?_
                      refine lv_iadd hx hb dMM_allGood_140 ?_
                      obtain ⟨h16, hw⟩ := hw
                      refine va_iald hx hb hK hP 8 0 mw_8 rfl h16 dMM_allGood_141 ?_
                      refine lv_bipush (v := 23) hx hb dMM_allGood_142 (by decide) ?_
                      refine lv_icmp_ne (tgt := 166) hx hb dMM_allGood_144 (by decide) (fun h17 => ?_) (fun h17 => ?_)
                      · have hw := hw.1 h17
                        exact J166 x2 x3 x4 x5 I F H locs ls (lv_sub hl [0, 1, 2, 3, 4] rfl) hP hS hw
                      · have hw := hw.2 h17
                        refine lv_aload_n hx hb dMM_allGood_147 rfl (lv_at hl 0 rfl) ?_
                        refine va_get (D := D) (v := .ref (a 16)) (ci := 8) (C := "CodeJudgeModel") (T := T_MM) (N := 37) hx hb hts in_MM hown hK hP 0 mw_0 rfl 19 (by decide) (hts (.fieldLink "CodeJudgeModel" 56 "CodeJudgeModel" "called" "[Z") tw_4_84) (fun _ h9 => h9) rfl dMM_allGood_148 ?_
                        refine lv_aload_n hx hb dMM_allGood_151 rfl (lv_at hl 0 rfl) ?_
                        refine va_get (D := D) (v := .ref (a 9)) (ci := 8) (C := "CodeJudgeModel") (T := T_MM) (N := 37) hx hb hts in_MM hown hK hP 0 mw_0 rfl 9 (by decide) (hts (.fieldLink "CodeJudgeModel" 35 "CodeJudgeModel" "numbers" "[I") tw_4_75) (fun _ h9 => h9) rfl dMM_allGood_152 ?_
                        refine lv_bipush (v := 120) hx hb dMM_allGood_155 (by decide) ?_
                        refine lv_iload hx hb dMM_allGood_157 (lv_at hl 3 rfl) ?_
                        refine lv_imul hx hb dMM_allGood_159 ?_
                        refine lv_iload hx hb dMM_allGood_160 (lv_at hl 4 rfl) ?_
                        refine lv_iadd hx hb dMM_allGood_162 ?_
                        obtain ⟨h18, hw⟩ := hw
                        refine va_iald hx hb hK hP 9 0 mw_9 rfl h18 dMM_allGood_163 ?_
                        refine lv_iconst (v := 1) hx hb dMM_allGood_164 (by decide) ?_
                        obtain ⟨h19, hw⟩ := hw
                        refine va_zast hx hb hK hP (mD hJ) hS 16 1 mw_16 rfl h19 dMM_allGood_165 (fun H locs hP _ hS => ?_)
                        have hP := mwa_16 hP
                        exact J166 x2 x3 x4 x5 I (va_up F 16 (upd (F 16) ((F 9) (((120 : Int32) * x4) + x5 : Int32).toNatClampNeg : Int32).toNatClampNeg (vp_nar .boolean 1))) H locs ls (lv_sub hl [0, 1, 2, 3, 4] rfl) hP hS hw
          have J88 : ∀ (x3 : Int32) (x4 : Int32) (s0 : Int32) (I : SI) (F : SF) (H : Heap) (locs : List Loc) (ls : Array Slot), lv_has ls 6 [(0, .ref (a 0)), (3, .int x3), (4, .int x4)] → va_P D vwCl (mw a cI cZ I F) H → va_S (xA 26 a s.heap.size) s.heap H locs → wp_MM_allGood_88 (wp_MM_allGood_34 Post n34) (wp_MM_allGood_43 (wp_MM_allGood_34 Post n34) Post n43) Post x3 x4 s0 I F → W p l e (headSpec (Cond.code y_MM_allGood b_MM_allGood 6 (some .boolean) :: TB) { frames := 5, cells := 0, slots := 0, locals := 119 }).room s m ([.ref (a 0), .int p1]).toArray below meth c H locs 0 0 Q (F0 m 88 ls [.int s0]) := by
            intro x3 x4 s0 I F H locs ls hl hP hS hw
            dsimp only [wp_MM_allGood_88] at hw
            refine lv_istore_n (lv' := [(2, .int s0), (0, .ref (a 0)), (3, .int x3), (4, .int x4)]) hx hb dMM_allGood_88 rfl hl (by decide) rfl (fun ls hl => ?_)
            refine lv_iconst (v := 0) hx hb dMM_allGood_89 (by decide) ?_
            refine lv_istore (lv' := [(5, .int 0), (2, .int s0), (0, .ref (a 0)), (3, .int x3), (4, .int x4)]) hx hb dMM_allGood_90 hl (by decide) rfl (fun ls hl => ?_)
            obtain ⟨n92, hw⟩ := hw
            exact J92 n92 s0 x3 x4 0 I F H locs ls (lv_sub hl [2, 1, 3, 4, 0] rfl) hP hS hw
          have J87 : ∀ (x3 : Int32) (x4 : Int32) (I : SI) (F : SF) (H : Heap) (locs : List Loc) (ls : Array Slot), lv_has ls 6 [(0, .ref (a 0)), (3, .int x3), (4, .int x4)] → va_P D vwCl (mw a cI cZ I F) H → va_S (xA 26 a s.heap.size) s.heap H locs → wp_MM_allGood_87 (wp_MM_allGood_34 Post n34) (wp_MM_allGood_43 (wp_MM_allGood_34 Post n34) Post n43) Post x3 x4 I F → W p l e (headSpec (Cond.code y_MM_allGood b_MM_allGood 6 (some .boolean) :: TB) { frames := 5, cells := 0, slots := 0, locals := 119 }).room s m ([.ref (a 0), .int p1]).toArray below meth c H locs 0 0 Q (F0 m 87 ls []) := by
            intro x3 x4 I F H locs ls hl hP hS hw
            dsimp only [wp_MM_allGood_87] at hw
            refine lv_iconst (v := 0) hx hb dMM_allGood_87 (by decide) ?_
            exact J88 x3 x4 0 I F H locs ls (lv_sub hl [0, 1, 2] rfl) hP hS hw
          have J83 : ∀ (x3 : Int32) (x4 : Int32) (I : SI) (F : SF) (H : Heap) (locs : List Loc) (ls : Array Slot), lv_has ls 6 [(0, .ref (a 0)), (3, .int x3), (4, .int x4)] → va_P D vwCl (mw a cI cZ I F) H → va_S (xA 26 a s.heap.size) s.heap H locs → wp_MM_allGood_83 (wp_MM_allGood_34 Post n34) (wp_MM_allGood_43 (wp_MM_allGood_34 Post n34) Post n43) Post x3 x4 I F → W p l e (headSpec (Cond.code y_MM_allGood b_MM_allGood 6 (some .boolean) :: TB) { frames := 5, cells := 0, slots := 0, locals := 119 }).room s m ([.ref (a 0), .int p1]).toArray below meth c H locs 0 0 Q (F0 m 83 ls []) := by
            intro x3 x4 I F H locs ls hl hP hS hw
            dsimp only [wp_MM_allGood_83] at hw
            refine lv_iconst (v := 1) hx hb dMM_allGood_83 (by decide) ?_
            refine lv_goto (tgt := 88) hx hb dMM_allGood_84 (by decide) ?_
            exact J88 x3 x4 1 I F H locs ls (lv_sub hl [0, 1, 2] rfl) hP hS hw
          intro x2 x3 x4 I F H locs ls hl hP hS hw
          dsimp only [wp_MM_allGood_43] at hw
          refine lv_iload hx hb dMM_allGood_43 (lv_at hl 3 rfl) ?_
          refine lv_bipush (v := 8) hx hb dMM_allGood_45 (by decide) ?_
          refine lv_icmp_ge (tgt := 178) hx hb dMM_allGood_47 (by decide) (fun h4 => ?_) (fun h4 => ?_)
          · have hw := hw.1 h4
            obtain ⟨x5, e_x5⟩ : ∃ z : Int32, z = x3 + 1 := ⟨_, rfl⟩
            have hw := hw x5 e_x5
            refine lv_iinc (k := 2) (v := x5) (lv' := [(3, .int x5), (0, .ref (a 0)), (2, .int x2), (4, .int x4)]) hx hb dMM_allGood_178 hl rfl (e_x5 ▸ (by first | rfl | decide)) (by decide) rfl (fun ls hl => ?_)
            refine lv_goto (tgt := 34) hx hb dMM_allGood_181 (by decide) ?_
            exact ih34 x2 x5 I F H locs ls (lv_sub hl [1, 2, 0] rfl) hP hS hw
          · have hw := hw.2 h4
            refine lv_iload_n hx hb dMM_allGood_50 rfl (lv_at hl 1 rfl) ?_
            refine lv_if_eq (tgt := 87) hx hb dMM_allGood_51 (by decide) (fun h6 => ?_) (fun h6 => ?_)
            · have hw := hw.1 h6
              exact J87 x3 x4 I F H locs ls (lv_sub hl [0, 2, 3] rfl) hP hS hw
            · have hw := hw.2 h6
              refine lv_aload_n hx hb dMM_allGood_54 rfl (lv_at hl 0 rfl) ?_
              refine va_get (D := D) (v := .ref (a 16)) (ci := 8) (C := "CodeJudgeModel") (T := T_MM) (N := 37) hx hb hts in_MM hown hK hP 0 mw_0 rfl 19 (by decide) (hts (.fieldLink "CodeJudgeModel" 56 "CodeJudgeModel" "called" "[Z") tw_4_84) (fun _ h9 => h9) rfl dMM_allGood_55 ?_
              refine lv_iload hx hb dMM_allGood_58 (lv_at hl 3 rfl) ?_
              obtain ⟨h20, hw⟩ := hw
              refine va_zald hx hb hK hP 16 1 mw_16 rfl h20 dMM_allGood_60 ?_
              refine lv_if_eq (tgt := 83) hx hb dMM_allGood_61 (by decide) (fun h21 => ?_) (fun h21 => ?_)
              · have hw := hw.1 h21
                exact J83 x3 x4 I F H locs ls (lv_sub hl [0, 2, 3] rfl) hP hS hw
              · have hw := hw.2 h21
                refine lv_aload_n hx hb dMM_allGood_64 rfl (lv_at hl 0 rfl) ?_
                refine va_get (D := D) (v := .ref (a 1)) (ci := 8) (C := "CodeJudgeModel") (T := T_MM) (N := 37) hx hb hts in_MM hown hK hP 0 mw_0 rfl 1 (by decide) (hts (.fieldLink "CodeJudgeModel" 7 "CodeJudgeModel" "there" "[Z") tw_4_67) (fun _ h9 => h9) rfl dMM_allGood_65 ?_
                refine lv_iload hx hb dMM_allGood_68 (lv_at hl 3 rfl) ?_
                obtain ⟨h22, hw⟩ := hw
                refine va_zald hx hb hK hP 1 1 mw_1 rfl h22 dMM_allGood_70 ?_
                refine lv_if_eq (tgt := 87) hx hb dMM_allGood_71 (by decide) (fun h23 => ?_) (fun h23 => ?_)
                · have hw := hw.1 h23
                  exact J87 x3 x4 I F H locs ls (lv_sub hl [0, 2, 3] rfl) hP hS hw
                · have hw := hw.2 h23
                  refine lv_aload_n hx hb dMM_allGood_74 rfl (lv_at hl 0 rfl) ?_
                  refine lv_iload hx hb dMM_allGood_75 (lv_at hl 3 rfl) ?_
                  obtain ⟨P24, hc24, hw⟩ := hw
                  refine mc_i (va_runV (As := [.int x4]) (rest := []) ⟨hx, hb, hml, hown, hts⟩ (c_MM_judge l D a cI cZ hJ I F x4 H.size P24 hc24) (cwV 1 hts (tb_V (C := "CodeJudgeModel") wc_MM_judge tw_4_216 tw_4_218 tw_0_24 tw_1_9) rfl rfl rfl (by decide +kernel) ⟨Nat.le_of_ble_eq_true rfl, Nat.le_of_ble_eq_true rfl⟩) ⟨mP_bl, va_recv hK hP rfl mw_0, mP_at hP hK⟩ rfl rfl hl.1 rfl (lv_room (Nat.le_of_ble_eq_true rfl)) dMM_allGood_77 ⟨Nat.le_of_ble_eq_true rfl, Nat.le_of_ble_eq_true rfl⟩) hS (fun r24 I24 F24 H locs hP hp24 hS => ?_)
                  have hw := hw r24 I24 F24 hp24
                  refine lv_if_eq (tgt := 87) hx hb dMM_allGood_80 (by decide) (fun h25 => ?_) (fun h25 => ?_)
                  · have hw := hw.1 h25
                    exact J87 x3 x4 I24 F24 H locs ls (lv_sub hl [0, 2, 3] rfl) hP hS hw
                  · have hw := hw.2 h25
                    exact J83 x3 x4 I24 F24 H locs ls (lv_sub hl [0, 2, 3] rfl) hP hS hw
      intro x2 x3 I F H locs ls hl hP hS hw
      dsimp only [wp_MM_allGood_34] at hw
      refine lv_iload_n hx hb dMM_allGood_34 rfl (lv_at hl 2 rfl) ?_
      refine lv_bipush (v := 8) hx hb dMM_allGood_35 (by decide) ?_
      refine lv_icmp_ge (tgt := 184) hx hb dMM_allGood_37 (by decide) (fun h2 => ?_) (fun h2 => ?_)
      · have hw := hw.1 h2
        refine lv_iload_n hx hb dMM_allGood_184 rfl (lv_at hl 1 rfl) ?_
        obtain ⟨h3, hw⟩ := hw
        rw [hQ]
        exact W.zret (v := x2) hx hb hr (bo_n h3) (fun t ht hW => ⟨⟨x2, (I, F), rfl, hw, by subst ht; exact hP⟩, hS.F ht⟩) hS.2.2 dMM_allGood_185
      · have hw := hw.2 h2
        refine lv_iconst (v := 0) hx hb dMM_allGood_40 (by decide) ?_
        refine lv_istore (lv' := [(4, .int 0), (0, .ref (a 0)), (2, .int x2), (3, .int x3)]) hx hb dMM_allGood_41 hl (by decide) rfl (fun ls hl => ?_)
        obtain ⟨n43, hw⟩ := hw
        exact J43 n43 x2 x3 0 I F H locs ls (lv_sub hl [1, 2, 3, 0] rfl) hP hS hw
  have J2 : ∀ n : Nat, ∀ (x1 : Int32) (x2 : Int32) (I : SI) (F : SF) (H : Heap) (locs : List Loc) (ls : Array Slot), lv_has ls 6 [(0, .ref (a 0)), (1, .int x1), (2, .int x2)] → va_P D vwCl (mw a cI cZ I F) H → va_S (xA 26 a s.heap.size) s.heap H locs → wp_MM_allGood_2 Post n x1 x2 I F → W p l e (headSpec (Cond.code y_MM_allGood b_MM_allGood 6 (some .boolean) :: TB) { frames := 5, cells := 0, slots := 0, locals := 119 }).room s m ([.ref (a 0), .int p1]).toArray below meth c H locs 0 0 Q (F0 m 2 ls []) := by
    intro n2
    induction n2 with
    | zero =>
      intro x1 x2 I F H locs ls hl hP hS hw
      exact False.elim hw
    | succ n2 ih2 =>
      have J23 : ∀ (x1 : Int32) (x2 : Int32) (s0 : Int32) (s1 : Int32) (I : SI) (F : SF) (H : Heap) (locs : List Loc) (ls : Array Slot), lv_has ls 6 [(0, .ref (a 0)), (1, .int x1), (2, .int x2)] → va_P D vwCl (mw a cI cZ I F) H → va_S (xA 26 a s.heap.size) s.heap H locs → wp_MM_allGood_23 (wp_MM_allGood_2 Post n2) Post x1 x2 s0 s1 I F → W p l e (headSpec (Cond.code y_MM_allGood b_MM_allGood 6 (some .boolean) :: TB) { frames := 5, cells := 0, slots := 0, locals := 119 }).room s m ([.ref (a 0), .int p1]).toArray below meth c H locs 0 0 Q (F0 m 23 ls [.int s0, .int s1, .ref (a 16)]) := by
        intro x1 x2 s0 s1 I F H locs ls hl hP hS hw
        dsimp only [wp_MM_allGood_23] at hw
        obtain ⟨h27, hw⟩ := hw
        refine va_zast hx hb hK hP (mD hJ) hS 16 1 mw_16 rfl h27 dMM_allGood_23 (fun H locs hP _ hS => ?_)
        have hP := mwa_16 hP
        obtain ⟨x28, e_x28⟩ : ∃ z : Int32, z = x2 + 1 := ⟨_, rfl⟩
        have hw := hw x28 e_x28
        refine lv_iinc (k := 2) (v := x28) (lv' := [(2, .int x28), (0, .ref (a 0)), (1, .int x1)]) hx hb dMM_allGood_24 hl rfl (e_x28 ▸ (by first | rfl | decide)) (by decide) rfl (fun ls hl => ?_)
        refine lv_goto (tgt := 2) hx hb dMM_allGood_27 (by decide) ?_
        exact ih2 x1 x28 I (va_up F 16 (upd (F 16) s1.toNatClampNeg (vp_nar .boolean s0))) H locs ls (lv_sub hl [1, 2, 0] rfl) hP hS hw
      intro x1 x2 I F H locs ls hl hP hS hw
      dsimp only [wp_MM_allGood_2] at hw
      refine lv_iload_n hx hb dMM_allGood_2 rfl (lv_at hl 2 rfl) ?_
      refine lv_bipush (v := 8) hx hb dMM_allGood_3 (by decide) ?_
      refine lv_icmp_ge (tgt := 30) hx hb dMM_allGood_5 (by decide) (fun h1 => ?_) (fun h1 => ?_)
      · have hw := hw.1 h1
        refine lv_iconst (v := 1) hx hb dMM_allGood_30 (by decide) ?_
        refine lv_istore_n (lv' := [(2, .int 1), (0, .ref (a 0)), (1, .int x1)]) hx hb dMM_allGood_31 rfl hl (by decide) rfl (fun ls hl => ?_)
        refine lv_iconst (v := 0) hx hb dMM_allGood_32 (by decide) ?_
        refine lv_istore_n (lv' := [(3, .int 0), (2, .int 1), (0, .ref (a 0)), (1, .int x1)]) hx hb dMM_allGood_33 rfl hl (by decide) rfl (fun ls hl => ?_)
        obtain ⟨n34, hw⟩ := hw
        exact J34 n34 1 0 I F H locs ls (lv_sub hl [2, 1, 0] rfl) hP hS hw
      · have hw := hw.2 h1
        refine lv_aload_n hx hb dMM_allGood_8 rfl (lv_at hl 0 rfl) ?_
        refine va_get (D := D) (v := .ref (a 16)) (ci := 8) (C := "CodeJudgeModel") (T := T_MM) (N := 37) hx hb hts in_MM hown hK hP 0 mw_0 rfl 19 (by decide) (hts (.fieldLink "CodeJudgeModel" 56 "CodeJudgeModel" "called" "[Z") tw_4_84) (fun _ h9 => h9) rfl dMM_allGood_9 ?_
        refine lv_iload_n hx hb dMM_allGood_12 rfl (lv_at hl 2 rfl) ?_
        refine lv_iload_n hx hb dMM_allGood_13 rfl (lv_at hl 2 rfl) ?_
        refine lv_iload_n hx hb dMM_allGood_14 rfl (lv_at hl 1 rfl) ?_
        refine lv_icmp_ne (tgt := 22) hx hb dMM_allGood_15 (by decide) (fun h26 => ?_) (fun h26 => ?_)
        · have hw := hw.1 h26
          refine lv_iconst (v := 0) hx hb dMM_allGood_22 (by decide) ?_
          exact J23 x1 x2 0 x2 I F H locs ls (lv_sub hl [0, 1, 2] rfl) hP hS hw
        · have hw := hw.2 h26
          refine lv_iconst (v := 1) hx hb dMM_allGood_18 (by decide) ?_
          refine lv_goto (tgt := 23) hx hb dMM_allGood_19 (by decide) ?_
          exact J23 x1 x2 1 x2 I F H locs ls (lv_sub hl [0, 1, 2] rfl) hP hS hw
  suffices hM : ∀ (H : Heap) (locs : List Loc), va_P D vwCl (mw a cI cZ I F) H → va_S (xA 26 a s.heap.size) s.heap H locs → W p l e (headSpec (Cond.code y_MM_allGood b_MM_allGood 6 (some .boolean) :: TB) { frames := 5, cells := 0, slots := 0, locals := 119 }).room s m ([.ref (a 0), .int p1]).toArray below meth c H locs 0 0 (Q) (F0 m 0 ls []) from hM s.heap [] hP va_S.rf
  clear hP
  intro H locs hP hS
  dsimp only [wp_MM_allGood] at hw
  refine lv_iconst (v := 0) hx hb dMM_allGood_0 (by decide) ?_
  refine lv_istore_n (lv' := [(2, .int 0), (0, .ref (a 0)), (1, .int p1)]) hx hb dMM_allGood_1 rfl hl (by decide) rfl (fun ls hl => ?_)
  obtain ⟨n2, hw⟩ := hw
  exact J2 n2 p1 0 I F H locs ls (lv_sub hl [1, 2, 0] rfl) hP hS hw
