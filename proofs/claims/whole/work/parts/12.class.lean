def wp_IN_numberOfTrailingZeros_62 (Post : Int32 → SI → SF → Prop) (x0 : Int32) (x1 : Int32) (I : SI) (F : SF) : Prop := (x0 ≤ 4 → (Post (x1 + ((x0.toUInt32 >>> ((1 : Int32).toUInt32 &&& Int32.toUInt32 31)).toInt32)) I F)) ∧ (¬ x0 ≤ 4 → (∀ x7 : Int32, x7 = x1 + 2 → (∀ x8 : Int32, x8 = (x0.toUInt32 >>> ((2 : Int32).toUInt32 &&& Int32.toUInt32 31)).toInt32 → (Post (x7 + ((x8.toUInt32 >>> ((1 : Int32).toUInt32 &&& Int32.toUInt32 31)).toInt32)) I F))))
def wp_IN_numberOfTrailingZeros_49 (Post : Int32 → SI → SF → Prop) (x0 : Int32) (x1 : Int32) (I : SI) (F : SF) : Prop := (x0 ≤ 16 → (wp_IN_numberOfTrailingZeros_62 Post x0 x1 I F)) ∧ (¬ x0 ≤ 16 → (∀ x9 : Int32, x9 = x1 + 4 → (∀ x10 : Int32, x10 = (x0.toUInt32 >>> ((4 : Int32).toUInt32 &&& Int32.toUInt32 31)).toInt32 → (wp_IN_numberOfTrailingZeros_62 Post x10 x9 I F))))
def wp_IN_numberOfTrailingZeros_34 (Post : Int32 → SI → SF → Prop) (x0 : Int32) (x1 : Int32) (I : SI) (F : SF) : Prop := (x0 ≤ 256 → (wp_IN_numberOfTrailingZeros_49 Post x0 x1 I F)) ∧ (¬ x0 ≤ 256 → (∀ x11 : Int32, x11 = x1 + 8 → (∀ x12 : Int32, x12 = (x0.toUInt32 >>> ((8 : Int32).toUInt32 &&& Int32.toUInt32 31)).toInt32 → (wp_IN_numberOfTrailingZeros_49 Post x12 x11 I F))))
def wp_IN_numberOfTrailingZeros (p1 : Int32) (I : SI) (F : SF) (Post : Int32 → SI → SF → Prop) : Prop := ∀ x1 : Int32, x1 = (p1 ^^^ (-1)) &&& (p1 - 1) → ((0 < x1 → ((x1 ≤ 65536 → (wp_IN_numberOfTrailingZeros_34 Post x1 1 I F)) ∧ (¬ x1 ≤ 65536 → (∀ x13 : Int32, x13 = 1 + 16 → (∀ x14 : Int32, x14 = (x1.toUInt32 >>> ((16 : Int32).toUInt32 &&& Int32.toUInt32 31)).toInt32 → (wp_IN_numberOfTrailingZeros_34 Post x14 x13 I F)))))) ∧ (¬ 0 < x1 → (Post (x1 &&& 32) I F)))
set_option maxHeartbeats 4000000 in
set_option maxRecDepth 100000 in
theorem c_IN_numberOfTrailingZeros (l : Launch) (D : va_G) (a : Nat → Nat) (cI cZ cQ : ClassId) (hJ : xJ 47 a) (I : SI) (F : SF) (p1 : Int32) (sz : Nat) (Post : Int32 → SI → SF → Prop) (hw : wp_IN_numberOfTrailingZeros p1 I F Post) : Met l y_IN_numberOfTrailingZeros (Cond.code y_IN_numberOfTrailingZeros b_IN_numberOfTrailingZeros 2 (some .int) :: TB) { frames := 0, cells := 0, slots := 0, locals := 0 } (va_Pc [.int p1] (cP D a cI cZ cQ I F sz)) (va_Qi (fun r (u : SI × SF) => Post r u.1 u.2) (fun u t => va_P D vwCl (cw a cI cZ cQ u.1 u.2) t.heap) (xA 47 a sz)) 0 0 (xA 47 a sz) := by
  refine Met.ofW (cc := b_IN_numberOfTrailingZeros) (maxL := 2) (ret := (some .int)) (by decide) rfl ?_
  intro p e s m args below meth c s₁ B hml hv
  obtain ⟨rfl, rfl, hP, hK, hN⟩ := hv
  have hx := B.exec
  have hb := B.bytes
  have hr := B.returns
  have hts : ∀ w ∈ TB, w.before _ s = true := fun w h => atoms_spec (ws := Cond.code y_IN_numberOfTrailingZeros b_IN_numberOfTrailingZeros 2 (some .int) :: TB) B.pre w (List.mem_cons_of_mem _ h)
  have hown : s.vm.findClass "java/lang/Integer" = some m.cls := findClass_of_methodNamed B.named
  have hlocks := B.notSynchronized
  have hl := lv_entry ([.int p1]) (n := 2) (Nat.le_of_ble_eq_true rfl)
  rw [lg_entry_eq]
  generalize (lg_sl ([.int p1]) ++ List.replicate (2 - (lg_sl ([.int p1])).length) Slot.unset).toArray = ls at hl ⊢
  have hl : lv_has ls 2 [(0, .int p1)] := hl
  obtain ⟨Q, hQ⟩ : ∃ Q, Q = MQ below (va_Qi (fun r (u : SI × SF) => Post r u.1 u.2) (fun u t => va_P D vwCl (cw a cI cZ cQ u.1 u.2) t.heap) (xA 47 a s.heap.size)) ([.int p1]).toArray s 0 0 (xA 47 a s.heap.size) := ⟨_, rfl⟩
  rw [← hQ]
  have J62 : ∀ (x0 : Int32) (x1 : Int32) (I : SI) (F : SF) (H : Heap) (locs : List Loc) (ls : Array Slot), lv_has ls 2 [(0, .int x0), (1, .int x1)] → va_P D vwCl (cw a cI cZ cQ I F) H → va_S (xA 47 a s.heap.size) s.heap H locs → wp_IN_numberOfTrailingZeros_62 Post x0 x1 I F → W p l e (headSpec (Cond.code y_IN_numberOfTrailingZeros b_IN_numberOfTrailingZeros 2 (some .int) :: TB) { frames := 0, cells := 0, slots := 0, locals := 0 }).room s m ([.int p1]).toArray below meth c H locs 0 0 Q (F0 m 62 ls []) := by
    intro x0 x1 I F H locs ls hl hP hS hw
    dsimp only [wp_IN_numberOfTrailingZeros_62] at hw
    refine lv_iload_n hx hb dIN_numberOfTrailingZeros_62 rfl (lv_at hl 0 rfl) ?_
    refine lv_iconst (v := 4) hx hb dIN_numberOfTrailingZeros_63 (by decide) ?_
    refine lv_icmp_le (tgt := 74) hx hb dIN_numberOfTrailingZeros_64 (by decide) (fun h6 => ?_) (fun h6 => ?_)
    · have hw := hw.1 h6
      refine lv_iload_n hx hb dIN_numberOfTrailingZeros_74 rfl (lv_at hl 1 rfl) ?_
      refine lv_iload_n hx hb dIN_numberOfTrailingZeros_75 rfl (lv_at hl 0 rfl) ?_
      refine lv_iconst (v := 1) hx hb dIN_numberOfTrailingZeros_76 (by decide) ?_
      refine lv_iushr hx hb dIN_numberOfTrailingZeros_77 rfl ?_
      refine lv_iadd hx hb dIN_numberOfTrailingZeros_78 ?_
      rw [hQ]
      exact W.iret (v := (x1 + ((x0.toUInt32 >>> ((1 : Int32).toUInt32 &&& Int32.toUInt32 31)).toInt32))) hx hb hr (fun t ht hW => ⟨⟨(x1 + ((x0.toUInt32 >>> ((1 : Int32).toUInt32 &&& Int32.toUInt32 31)).toInt32)), (I, F), rfl, hw, by subst ht; exact hP⟩, hS.F ht⟩) hS.2.2 dIN_numberOfTrailingZeros_79
    · have hw := hw.2 h6
      obtain ⟨x7, e_x7⟩ : ∃ z : Int32, z = x1 + 2 := ⟨_, rfl⟩
      have hw := hw x7 e_x7
      refine lv_iinc (k := 1) (v := x7) (lv' := [(1, .int x7), (0, .int x0)]) hx hb dIN_numberOfTrailingZeros_67 hl rfl (e_x7 ▸ (by first | rfl | decide)) (by decide) rfl (fun ls hl => ?_)
      refine lv_iload_n hx hb dIN_numberOfTrailingZeros_70 rfl (lv_at hl 1 rfl) ?_
      refine lv_iconst (v := 2) hx hb dIN_numberOfTrailingZeros_71 (by decide) ?_
      refine lv_iushr hx hb dIN_numberOfTrailingZeros_72 rfl ?_
      refine lv_topi (fun x8 e_x8 => ?_)
      have hw := hw x8 e_x8
      refine lv_istore_n (lv' := [(0, .int x8), (1, .int x7)]) hx hb dIN_numberOfTrailingZeros_73 rfl hl (by decide) rfl (fun ls hl => ?_)
      refine lv_iload_n hx hb dIN_numberOfTrailingZeros_74 rfl (lv_at hl 1 rfl) ?_
      refine lv_iload_n hx hb dIN_numberOfTrailingZeros_75 rfl (lv_at hl 0 rfl) ?_
      refine lv_iconst (v := 1) hx hb dIN_numberOfTrailingZeros_76 (by decide) ?_
      refine lv_iushr hx hb dIN_numberOfTrailingZeros_77 rfl ?_
      refine lv_iadd hx hb dIN_numberOfTrailingZeros_78 ?_
      rw [hQ]
      exact W.iret (v := (x7 + ((x8.toUInt32 >>> ((1 : Int32).toUInt32 &&& Int32.toUInt32 31)).toInt32))) hx hb hr (fun t ht hW => ⟨⟨(x7 + ((x8.toUInt32 >>> ((1 : Int32).toUInt32 &&& Int32.toUInt32 31)).toInt32)), (I, F), rfl, hw, by subst ht; exact hP⟩, hS.F ht⟩) hS.2.2 dIN_numberOfTrailingZeros_79
  have J49 : ∀ (x0 : Int32) (x1 : Int32) (I : SI) (F : SF) (H : Heap) (locs : List Loc) (ls : Array Slot), lv_has ls 2 [(0, .int x0), (1, .int x1)] → va_P D vwCl (cw a cI cZ cQ I F) H → va_S (xA 47 a s.heap.size) s.heap H locs → wp_IN_numberOfTrailingZeros_49 Post x0 x1 I F → W p l e (headSpec (Cond.code y_IN_numberOfTrailingZeros b_IN_numberOfTrailingZeros 2 (some .int) :: TB) { frames := 0, cells := 0, slots := 0, locals := 0 }).room s m ([.int p1]).toArray below meth c H locs 0 0 Q (F0 m 49 ls []) := by
    intro x0 x1 I F H locs ls hl hP hS hw
    dsimp only [wp_IN_numberOfTrailingZeros_49] at hw
    refine lv_iload_n hx hb dIN_numberOfTrailingZeros_49 rfl (lv_at hl 0 rfl) ?_
    refine lv_bipush (v := 16) hx hb dIN_numberOfTrailingZeros_50 (by decide) ?_
    refine lv_icmp_le (tgt := 62) hx hb dIN_numberOfTrailingZeros_52 (by decide) (fun h5 => ?_) (fun h5 => ?_)
    · have hw := hw.1 h5
      exact J62 x0 x1 I F H locs ls (lv_sub hl [0, 1] rfl) hP hS hw
    · have hw := hw.2 h5
      obtain ⟨x9, e_x9⟩ : ∃ z : Int32, z = x1 + 4 := ⟨_, rfl⟩
      have hw := hw x9 e_x9
      refine lv_iinc (k := 1) (v := x9) (lv' := [(1, .int x9), (0, .int x0)]) hx hb dIN_numberOfTrailingZeros_55 hl rfl (e_x9 ▸ (by first | rfl | decide)) (by decide) rfl (fun ls hl => ?_)
      refine lv_iload_n hx hb dIN_numberOfTrailingZeros_58 rfl (lv_at hl 1 rfl) ?_
      refine lv_iconst (v := 4) hx hb dIN_numberOfTrailingZeros_59 (by decide) ?_
      refine lv_iushr hx hb dIN_numberOfTrailingZeros_60 rfl ?_
      refine lv_topi (fun x10 e_x10 => ?_)
      have hw := hw x10 e_x10
      refine lv_istore_n (lv' := [(0, .int x10), (1, .int x9)]) hx hb dIN_numberOfTrailingZeros_61 rfl hl (by decide) rfl (fun ls hl => ?_)
      exact J62 x10 x9 I F H locs ls (lv_sub hl [0, 1] rfl) hP hS hw
  have J34 : ∀ (x0 : Int32) (x1 : Int32) (I : SI) (F : SF) (H : Heap) (locs : List Loc) (ls : Array Slot), lv_has ls 2 [(0, .int x0), (1, .int x1)] → va_P D vwCl (cw a cI cZ cQ I F) H → va_S (xA 47 a s.heap.size) s.heap H locs → wp_IN_numberOfTrailingZeros_34 Post x0 x1 I F → W p l e (headSpec (Cond.code y_IN_numberOfTrailingZeros b_IN_numberOfTrailingZeros 2 (some .int) :: TB) { frames := 0, cells := 0, slots := 0, locals := 0 }).room s m ([.int p1]).toArray below meth c H locs 0 0 Q (F0 m 34 ls []) := by
    intro x0 x1 I F H locs ls hl hP hS hw
    dsimp only [wp_IN_numberOfTrailingZeros_34] at hw
    refine lv_iload_n hx hb dIN_numberOfTrailingZeros_34 rfl (lv_at hl 0 rfl) ?_
    refine lv_sipush (v := 256) hx hb dIN_numberOfTrailingZeros_35 (by decide) ?_
    refine lv_icmp_le (tgt := 49) hx hb dIN_numberOfTrailingZeros_38 (by decide) (fun h4 => ?_) (fun h4 => ?_)
    · have hw := hw.1 h4
      exact J49 x0 x1 I F H locs ls (lv_sub hl [0, 1] rfl) hP hS hw
    · have hw := hw.2 h4
      obtain ⟨x11, e_x11⟩ : ∃ z : Int32, z = x1 + 8 := ⟨_, rfl⟩
      have hw := hw x11 e_x11
      refine lv_iinc (k := 1) (v := x11) (lv' := [(1, .int x11), (0, .int x0)]) hx hb dIN_numberOfTrailingZeros_41 hl rfl (e_x11 ▸ (by first | rfl | decide)) (by decide) rfl (fun ls hl => ?_)
      refine lv_iload_n hx hb dIN_numberOfTrailingZeros_44 rfl (lv_at hl 1 rfl) ?_
      refine lv_bipush (v := 8) hx hb dIN_numberOfTrailingZeros_45 (by decide) ?_
      refine lv_iushr hx hb dIN_numberOfTrailingZeros_47 rfl ?_
      refine lv_topi (fun x12 e_x12 => ?_)
      have hw := hw x12 e_x12
      refine lv_istore_n (lv' := [(0, .int x12), (1, .int x11)]) hx hb dIN_numberOfTrailingZeros_48 rfl hl (by decide) rfl (fun ls hl => ?_)
      exact J49 x12 x11 I F H locs ls (lv_sub hl [0, 1] rfl) hP hS hw
  suffices hM : ∀ (H : Heap) (locs : List Loc), va_P D vwCl (cw a cI cZ cQ I F) H → va_S (xA 47 a s.heap.size) s.heap H locs → W p l e (headSpec (Cond.code y_IN_numberOfTrailingZeros b_IN_numberOfTrailingZeros 2 (some .int) :: TB) { frames := 0, cells := 0, slots := 0, locals := 0 }).room s m ([.int p1]).toArray below meth c H locs 0 0 (Q) (F0 m 0 ls []) from hM s.heap [] hP va_S.rf
  clear hP
  intro H locs hP hS
  dsimp only [wp_IN_numberOfTrailingZeros] at hw
  refine lv_iload_n hx hb dIN_numberOfTrailingZeros_0 rfl (lv_at hl 0 rfl) ?_
  refine lv_iconst (v := (-1)) hx hb dIN_numberOfTrailingZeros_1 (by decide) ?_
  refine lv_ixor hx hb dIN_numberOfTrailingZeros_2 ?_
  refine lv_iload_n hx hb dIN_numberOfTrailingZeros_3 rfl (lv_at hl 0 rfl) ?_
  refine lv_iconst (v := 1) hx hb dIN_numberOfTrailingZeros_4 (by decide) ?_
  refine lv_isub hx hb dIN_numberOfTrailingZeros_5 ?_
  refine lv_iand hx hb dIN_numberOfTrailingZeros_6 ?_
  refine lv_topi (fun x1 e_x1 => ?_)
  have hw := hw x1 e_x1
  refine lv_istore_n (lv' := [(0, .int x1)]) hx hb dIN_numberOfTrailingZeros_7 rfl hl (by decide) rfl (fun ls hl => ?_)
  refine lv_iload_n hx hb dIN_numberOfTrailingZeros_8 rfl (lv_at hl 0 rfl) ?_
  refine lv_if_gt (tgt := 17) hx hb dIN_numberOfTrailingZeros_9 (by decide) (fun h2 => ?_) (fun h2 => ?_)
  · have hw := hw.1 h2
    refine lv_iconst (v := 1) hx hb dIN_numberOfTrailingZeros_17 (by decide) ?_
    refine lv_istore_n (lv' := [(1, .int 1), (0, .int x1)]) hx hb dIN_numberOfTrailingZeros_18 rfl hl (by decide) rfl (fun ls hl => ?_)
    refine lv_iload_n hx hb dIN_numberOfTrailingZeros_19 rfl (lv_at hl 1 rfl) ?_
    refine lv_ldcw (v := 65536) hx hb hown (hts _ tw_3_62) dIN_numberOfTrailingZeros_20 ?_
    refine lv_icmp_le (tgt := 34) hx hb dIN_numberOfTrailingZeros_23 (by decide) (fun h3 => ?_) (fun h3 => ?_)
    · have hw := hw.1 h3
      exact J34 x1 1 I F H locs ls (lv_sub hl [1, 0] rfl) hP hS hw
    · have hw := hw.2 h3
      obtain ⟨x13, e_x13⟩ : ∃ z : Int32, z = 1 + 16 := ⟨_, rfl⟩
      have hw := hw x13 e_x13
      refine lv_iinc (k := 0) (v := x13) (lv' := [(1, .int x13), (0, .int x1)]) hx hb dIN_numberOfTrailingZeros_26 hl rfl (e_x13 ▸ (by first | rfl | decide)) (by decide) rfl (fun ls hl => ?_)
      refine lv_iload_n hx hb dIN_numberOfTrailingZeros_29 rfl (lv_at hl 1 rfl) ?_
      refine lv_bipush (v := 16) hx hb dIN_numberOfTrailingZeros_30 (by decide) ?_
      refine lv_iushr hx hb dIN_numberOfTrailingZeros_32 rfl ?_
      refine lv_topi (fun x14 e_x14 => ?_)
      have hw := hw x14 e_x14
      refine lv_istore_n (lv' := [(0, .int x14), (1, .int x13)]) hx hb dIN_numberOfTrailingZeros_33 rfl hl (by decide) rfl (fun ls hl => ?_)
      exact J34 x14 x13 I F H locs ls (lv_sub hl [0, 1] rfl) hP hS hw
  · have hw := hw.2 h2
    refine lv_iload_n hx hb dIN_numberOfTrailingZeros_12 rfl (lv_at hl 0 rfl) ?_
    refine lv_bipush (v := 32) hx hb dIN_numberOfTrailingZeros_13 (by decide) ?_
    refine lv_iand hx hb dIN_numberOfTrailingZeros_15 ?_
    rw [hQ]
    exact W.iret (v := (x1 &&& 32)) hx hb hr (fun t ht hW => ⟨⟨(x1 &&& 32), (I, F), rfl, hw, by subst ht; exact hP⟩, hS.F ht⟩) hS.2.2 dIN_numberOfTrailingZeros_16
def wp_CJ_isBelow (p1 : Int32) (p2 : Int32) (I : SI) (F : SF) (Post : Int32 → SI → SF → Prop) : Prop := (p1 < 0 → (Post 0 I F)) ∧ (¬ p1 < 0 → ((p2 ≤ p1 → (Post 0 I F)) ∧ (¬ p2 ≤ p1 → (Post 1 I F))))
set_option maxHeartbeats 4000000 in
set_option maxRecDepth 100000 in
theorem c_CJ_isBelow (l : Launch) (D : va_G) (a : Nat → Nat) (cI cZ cQ : ClassId) (hJ : xJ 47 a) (I : SI) (F : SF) (p1 : Int32) (p2 : Int32) (sz : Nat) (Post : Int32 → SI → SF → Prop) (hw : wp_CJ_isBelow p1 p2 I F Post) : Met l y_CJ_isBelow (Cond.code y_CJ_isBelow b_CJ_isBelow 2 (some .boolean) :: TB) { frames := 0, cells := 0, slots := 0, locals := 0 } (va_Pc [.int p1, .int p2] (cP D a cI cZ cQ I F sz)) (va_Qi (fun r (u : SI × SF) => Post r u.1 u.2) (fun u t => va_P D vwCl (cw a cI cZ cQ u.1 u.2) t.heap) (xA 47 a sz)) 0 0 (xA 47 a sz) := by
  refine Met.ofW (cc := b_CJ_isBelow) (maxL := 2) (ret := (some .boolean)) (by decide) rfl ?_
  intro p e s m args below meth c s₁ B hml hv
  obtain ⟨rfl, rfl, hP, hK, hN⟩ := hv
  have hx := B.exec
  have hb := B.bytes
  have hr := B.returns
  have hts : ∀ w ∈ TB, w.before _ s = true := fun w h => atoms_spec (ws := Cond.code y_CJ_isBelow b_CJ_isBelow 2 (some .boolean) :: TB) B.pre w (List.mem_cons_of_mem _ h)
  have hown : s.vm.findClass "CodeJudge" = some m.cls := findClass_of_methodNamed B.named
  have hlocks := B.notSynchronized
  have hl := lv_entry ([.int p1, .int p2]) (n := 2) (Nat.le_of_ble_eq_true rfl)
  rw [lg_entry_eq]
  generalize (lg_sl ([.int p1, .int p2]) ++ List.replicate (2 - (lg_sl ([.int p1, .int p2])).length) Slot.unset).toArray = ls at hl ⊢
  have hl : lv_has ls 2 [(0, .int p1), (1, .int p2)] := hl
  suffices hM : ∀ (H : Heap) (locs : List Loc), va_P D vwCl (cw a cI cZ cQ I F) H → va_S (xA 47 a s.heap.size) s.heap H locs → W p l e (headSpec (Cond.code y_CJ_isBelow b_CJ_isBelow 2 (some .boolean) :: TB) { frames := 0, cells := 0, slots := 0, locals := 0 }).room s m ([.int p1, .int p2]).toArray below meth c H locs 0 0 (MQ below (va_Qi (fun r (u : SI × SF) => Post r u.1 u.2) (fun u t => va_P D vwCl (cw a cI cZ cQ u.1 u.2) t.heap) (xA 47 a s.heap.size)) ([.int p1, .int p2]).toArray s 0 0 (xA 47 a s.heap.size)) (F0 m 0 ls []) from hM s.heap [] hP va_S.rf
  clear hP
  intro H locs hP hS
  dsimp only [wp_CJ_isBelow] at hw
  refine lv_iload_n hx hb dCJ_isBelow_0 rfl (lv_at hl 0 rfl) ?_
  refine lv_if_lt (tgt := 13) hx hb dCJ_isBelow_1 (by decide) (fun h1 => ?_) (fun h1 => ?_)
  · have hw := hw.1 h1
    refine lv_iconst (v := 0) hx hb dCJ_isBelow_13 (by decide) ?_
    exact W.zret (v := 0) hx hb hr rfl (fun t ht hW => ⟨⟨0, (I, F), rfl, hw, by subst ht; exact hP⟩, hS.F ht⟩) hS.2.2 dCJ_isBelow_14
  · have hw := hw.2 h1
    refine lv_iload_n hx hb dCJ_isBelow_4 rfl (lv_at hl 0 rfl) ?_
    refine lv_iload_n hx hb dCJ_isBelow_5 rfl (lv_at hl 1 rfl) ?_
    refine lv_icmp_ge (tgt := 13) hx hb dCJ_isBelow_6 (by decide) (fun h2 => ?_) (fun h2 => ?_)
    · have hw := hw.1 h2
      refine lv_iconst (v := 0) hx hb dCJ_isBelow_13 (by decide) ?_
      exact W.zret (v := 0) hx hb hr rfl (fun t ht hW => ⟨⟨0, (I, F), rfl, hw, by subst ht; exact hP⟩, hS.F ht⟩) hS.2.2 dCJ_isBelow_14
    · have hw := hw.2 h2
      refine lv_iconst (v := 1) hx hb dCJ_isBelow_9 (by decide) ?_
      refine lv_goto (tgt := 14) hx hb dCJ_isBelow_10 (by decide) ?_
      exact W.zret (v := 1) hx hb hr rfl (fun t ht hW => ⟨⟨1, (I, F), rfl, hw, by subst ht; exact hP⟩, hS.F ht⟩) hS.2.2 dCJ_isBelow_14
def wp_Ju_enter_2 (Post : SI → SF → Prop) : Nat → Nat → Int32 → SI → SF → Prop
  | 0 => fun _ _ _ _ => False
  | n + 1 => fun kx1 x2 I F => (120 ≤ x2 → (Post (va_up (va_up (va_up (va_up (va_up I 0 0) 5 0) 6 0) 7 ((((1 : Int32) <<< (((va_up (va_up (va_up I 0 0) 5 0) 6 0) (21 + 10 * kx1)) &&& 31)) - 1) &&& (((va_up (va_up (va_up I 0 0) 5 0) 6 0) (22 + 10 * kx1)) ^^^ (-1)))) 8 ((va_up (va_up (va_up (va_up I 0 0) 5 0) 6 0) 7 ((((1 : Int32) <<< (((va_up (va_up (va_up I 0 0) 5 0) 6 0) (21 + 10 * kx1)) &&& 31)) - 1) &&& (((va_up (va_up (va_up I 0 0) 5 0) 6 0) (22 + 10 * kx1)) ^^^ (-1)))) (22 + 10 * kx1))) F)) ∧ (¬ 120 ≤ x2 → (vp_in x2 120 ∧ (vp_in x2 120 ∧ (∀ x4 : Int32, x4 = x2 + 1 → ((wp_Ju_enter_2 Post n) kx1 x4 I (va_up (va_up F 4 (upd (F 4) x2.toNatClampNeg (-1))) 9 (upd (F 9) x2.toNatClampNeg (vp_nar .boolean 0))))))))
def wp_Ju_enter (k1 : Nat) (I : SI) (F : SF) (Post : SI → SF → Prop) : Prop := ∃ q2, wp_Ju_enter_2 Post q2 k1 0 I F
set_option maxHeartbeats 4000000 in
set_option maxRecDepth 100000 in
theorem c_Ju_enter (l : Launch) (D : va_G) (a : Nat → Nat) (cI cZ cQ : ClassId) (hJ : xJ 47 a) (I : SI) (F : SF) (k1 : Nat) (hk1 : k1 < 8) (sz : Nat) (Post : SI → SF → Prop) (hw : wp_Ju_enter k1 I F Post) : Met l y_Ju_enter (Cond.code y_Ju_enter b_Ju_enter 3 none :: TB) { frames := 0, cells := 0, slots := 0, locals := 0 } (va_Pc [.ref (a 2), .ref (a (23 + 3 * k1))] (cP D a cI cZ cQ I F sz)) (va_Qv (fun (u : SI × SF) => Post u.1 u.2) (fun u t => va_P D vwCl (cw a cI cZ cQ u.1 u.2) t.heap) (xA 47 a sz)) 0 0 (xA 47 a sz) := by
  refine Met.ofW (cc := b_Ju_enter) (maxL := 3) (ret := none) (by decide) rfl ?_
  intro p e s m args below meth c s₁ B hml hv
  obtain ⟨rfl, rfl, hP, hK, hN⟩ := hv
  have hx := B.exec
  have hb := B.bytes
  have hr := B.returns
  have hts : ∀ w ∈ TB, w.before _ s = true := fun w h => atoms_spec (ws := Cond.code y_Ju_enter b_Ju_enter 3 none :: TB) B.pre w (List.mem_cons_of_mem _ h)
  have hown : s.vm.findClass "CodeJudge$Judge" = some m.cls := findClass_of_methodNamed B.named
  have hlocks := B.notSynchronized
  have hl := lv_entry ([.ref (a 2), .ref (a (23 + 3 * k1))]) (n := 3) (Nat.le_of_ble_eq_true rfl)
  rw [lg_entry_eq]
  generalize (lg_sl ([.ref (a 2), .ref (a (23 + 3 * k1))]) ++ List.replicate (3 - (lg_sl ([.ref (a 2), .ref (a (23 + 3 * k1))])).length) Slot.unset).toArray = ls at hl ⊢
  have hl : lv_has ls 3 [(0, .ref (a 2)), (1, .ref (a (23 + 3 * k1)))] := hl
  obtain ⟨Q, hQ⟩ : ∃ Q, Q = MQ below (va_Qv (fun (u : SI × SF) => Post u.1 u.2) (fun u t => va_P D vwCl (cw a cI cZ cQ u.1 u.2) t.heap) (xA 47 a s.heap.size)) ([.ref (a 2), .ref (a (23 + 3 * k1))]).toArray s 0 0 (xA 47 a s.heap.size) := ⟨_, rfl⟩
  rw [← hQ]
  have J2 : ∀ n : Nat, ∀ (kx1 : Nat) (x2 : Int32) (I : SI) (F : SF) (H : Heap) (locs : List Loc) (ls : Array Slot) (hkx1 : kx1 < 8), lv_has ls 3 [(0, .ref (a 2)), (1, .ref (a (23 + 3 * kx1))), (2, .int x2)] → va_P D vwCl (cw a cI cZ cQ I F) H → va_S (xA 47 a s.heap.size) s.heap H locs → wp_Ju_enter_2 Post n kx1 x2 I F → W p l e (headSpec (Cond.code y_Ju_enter b_Ju_enter 3 none :: TB) { frames := 0, cells := 0, slots := 0, locals := 0 }).room s m ([.ref (a 2), .ref (a (23 + 3 * k1))]).toArray below meth c H locs 0 0 Q (F0 m 2 ls []) := by
    intro n2
    induction n2 with
    | zero =>
      intro kx1 x2 I F H locs ls hkx1 hl hP hS hw
      exact False.elim hw
    | succ n2 ih2 =>
      intro kx1 x2 I F H locs ls hkx1 hl hP hS hw
      dsimp only [wp_Ju_enter_2] at hw
      refine lv_iload_n hx hb dJu_enter_2 rfl (lv_at hl 2 rfl) ?_
      refine lv_bipush (v := 120) hx hb dJu_enter_3 (by decide) ?_
      refine lv_icmp_ge (tgt := 28) hx hb dJu_enter_5 (by decide) (fun h1 => ?_) (fun h1 => ?_)
      · have hw := hw.1 h1
        refine lv_aload_n hx hb dJu_enter_28 rfl (lv_at hl 0 rfl) ?_
        refine lv_iconst (v := 0) hx hb dJu_enter_29 (by decide) ?_
        refine va_put (D := D) (ci := 2) (v := .int 0) (ty := .int) (C := "CodeJudge$Judge") (T := T_Ju) (N := 8) hx hb hts in_Ju ty_Ju ok_Ju nm_Ju hown hK hP (cD hJ) hS 2 cw_2 rfl 6 (by decide) (hts (.fieldLink "CodeJudge$Judge" 46 "CodeJudge$Judge" "waitingSize" "I") tw_1_111) (fun _ h9 => h9) rfl (by decide +kernel) rfl rfl (Nat.le_of_ble_eq_true rfl) dJu_enter_30 (fun H locs hP _ hS => ?_)
        have hP := cwp_0 hP
        refine lv_aload_n hx hb dJu_enter_33 rfl (lv_at hl 0 rfl) ?_
        refine va_get (D := D) (v := .ref (a 10)) (ci := 2) (C := "CodeJudge$Judge") (T := T_Ju) (N := 8) hx hb hts in_Ju hown hK hP 2 cw_2 rfl 7 (by decide) (hts (.fieldLink "CodeJudge$Judge" 34 "CodeJudge$Judge" "now" "LCodeJudge$Shape;") tw_1_112) (fun _ h9 => h9) rfl dJu_enter_34 ?_
        refine lv_iconst (v := 0) hx hb dJu_enter_37 (by decide) ?_
        refine va_put (D := D) (ci := 6) (v := .int 0) (ty := .int) (C := "CodeJudge$Shape") (T := T_Sh) (N := 4) hx hb hts in_Sh ty_Sh ok_Sh nm_Sh hown hK hP (cD hJ) hS 10 cw_10 rfl 0 (by decide) (hts (.fieldLink "CodeJudge$Judge" 54 "CodeJudge$Shape" "high" "I") tw_1_88) (fun _ h9 => h9) rfl (by decide +kernel) rfl rfl (Nat.le_of_ble_eq_true rfl) dJu_enter_38 (fun H locs hP _ hS => ?_)
        have hP := cwp_5 hP
        refine lv_aload_n hx hb dJu_enter_41 rfl (lv_at hl 0 rfl) ?_
        refine va_get (D := D) (v := .ref (a 10)) (ci := 2) (C := "CodeJudge$Judge") (T := T_Ju) (N := 8) hx hb hts in_Ju hown hK hP 2 cw_2 rfl 7 (by decide) (hts (.fieldLink "CodeJudge$Judge" 34 "CodeJudge$Judge" "now" "LCodeJudge$Shape;") tw_1_112) (fun _ h9 => h9) rfl dJu_enter_42 ?_
        refine lv_iconst (v := 0) hx hb dJu_enter_45 (by decide) ?_
        refine va_put (D := D) (ci := 6) (v := .int 0) (ty := .int) (C := "CodeJudge$Shape") (T := T_Sh) (N := 4) hx hb hts in_Sh ty_Sh ok_Sh nm_Sh hown hK hP (cD hJ) hS 10 cw_10 rfl 1 (by decide) (hts (.fieldLink "CodeJudge$Judge" 57 "CodeJudge$Shape" "stack" "I") tw_1_90) (fun _ h9 => h9) rfl (by decide +kernel) rfl rfl (Nat.le_of_ble_eq_true rfl) dJu_enter_46 (fun H locs hP _ hS => ?_)
        have hP := cwp_6 hP
        refine lv_aload_n hx hb dJu_enter_49 rfl (lv_at hl 0 rfl) ?_
        refine va_get (D := D) (v := .ref (a 10)) (ci := 2) (C := "CodeJudge$Judge") (T := T_Ju) (N := 8) hx hb hts in_Ju hown hK hP 2 cw_2 rfl 7 (by decide) (hts (.fieldLink "CodeJudge$Judge" 34 "CodeJudge$Judge" "now" "LCodeJudge$Shape;") tw_1_112) (fun _ h9 => h9) rfl dJu_enter_50 ?_
        refine lv_iconst (v := 1) hx hb dJu_enter_53 (by decide) ?_
        refine lv_aload_n hx hb dJu_enter_54 rfl (lv_at hl 1 rfl) ?_
        refine va_get (D := D) (v := .int ((va_up (va_up (va_up I 0 0) 5 0) 6 0) (21 + 10 * kx1))) (ci := 4) (C := "CodeJudge$Method") (T := T_Me) (N := 9) hx hb hts in_Me hown hK hP (23 + 3 * kx1) (cw_M hkx1) rfl 1 (by decide) (hts (.fieldLink "CodeJudge$Judge" 60 "CodeJudge$Method" "parameters" "I") tw_1_38) (fun _ h9 => h9) rfl dJu_enter_55 ?_
        refine lv_ishl hx hb dJu_enter_58 ?_
        refine lv_iconst (v := 1) hx hb dJu_enter_59 (by decide) ?_
        refine lv_isub hx hb dJu_enter_60 ?_
        refine lv_aload_n hx hb dJu_enter_61 rfl (lv_at hl 1 rfl) ?_
        refine va_get (D := D) (v := .int ((va_up (va_up (va_up I 0 0) 5 0) 6 0) (22 + 10 * kx1))) (ci := 4) (C := "CodeJudge$Method") (T := T_Me) (N := 9) hx hb hts in_Me hown hK hP (23 + 3 * kx1) (cw_M hkx1) rfl 2 (by decide) (hts (.fieldLink "CodeJudge$Judge" 65 "CodeJudge$Method" "arrays" "I") tw_1_41) (fun _ h9 => h9) rfl dJu_enter_62 ?_
        refine lv_iconst (v := (-1)) hx hb dJu_enter_65 (by decide) ?_
        refine lv_ixor hx hb dJu_enter_66 ?_
        refine lv_iand hx hb dJu_enter_67 ?_
        refine va_put (D := D) (ci := 6) (v := .int ((((1 : Int32) <<< (((va_up (va_up (va_up I 0 0) 5 0) 6 0) (21 + 10 * kx1)) &&& 31)) - 1) &&& (((va_up (va_up (va_up I 0 0) 5 0) 6 0) (22 + 10 * kx1)) ^^^ (-1)))) (ty := .int) (C := "CodeJudge$Shape") (T := T_Sh) (N := 4) hx hb hts in_Sh ty_Sh ok_Sh nm_Sh hown hK hP (cD hJ) hS 10 cw_10 rfl 2 (by decide) (hts (.fieldLink "CodeJudge$Judge" 68 "CodeJudge$Shape" "intLocals" "I") tw_1_91) (fun _ h9 => h9) rfl (by decide +kernel) rfl rfl (Nat.le_of_ble_eq_true rfl) dJu_enter_68 (fun H locs hP _ hS => ?_)
        have hP := cwp_7 hP
        refine lv_aload_n hx hb dJu_enter_71 rfl (lv_at hl 0 rfl) ?_
        refine va_get (D := D) (v := .ref (a 10)) (ci := 2) (C := "CodeJudge$Judge") (T := T_Ju) (N := 8) hx hb hts in_Ju hown hK hP 2 cw_2 rfl 7 (by decide) (hts (.fieldLink "CodeJudge$Judge" 34 "CodeJudge$Judge" "now" "LCodeJudge$Shape;") tw_1_112) (fun _ h9 => h9) rfl dJu_enter_72 ?_
        refine lv_aload_n hx hb dJu_enter_75 rfl (lv_at hl 1 rfl) ?_
        refine va_get (D := D) (v := .int ((va_up (va_up (va_up (va_up I 0 0) 5 0) 6 0) 7 ((((1 : Int32) <<< (((va_up (va_up (va_up I 0 0) 5 0) 6 0) (21 + 10 * kx1)) &&& 31)) - 1) &&& (((va_up (va_up (va_up I 0 0) 5 0) 6 0) (22 + 10 * kx1)) ^^^ (-1)))) (22 + 10 * kx1))) (ci := 4) (C := "CodeJudge$Method") (T := T_Me) (N := 9) hx hb hts in_Me hown hK hP (23 + 3 * kx1) (cw_M hkx1) rfl 2 (by decide) (hts (.fieldLink "CodeJudge$Judge" 65 "CodeJudge$Method" "arrays" "I") tw_1_41) (fun _ h9 => h9) rfl dJu_enter_76 ?_
        refine va_put (D := D) (ci := 6) (v := .int ((va_up (va_up (va_up (va_up I 0 0) 5 0) 6 0) 7 ((((1 : Int32) <<< (((va_up (va_up (va_up I 0 0) 5 0) 6 0) (21 + 10 * kx1)) &&& 31)) - 1) &&& (((va_up (va_up (va_up I 0 0) 5 0) 6 0) (22 + 10 * kx1)) ^^^ (-1)))) (22 + 10 * kx1))) (ty := .int) (C := "CodeJudge$Shape") (T := T_Sh) (N := 4) hx hb hts in_Sh ty_Sh ok_Sh nm_Sh hown hK hP (cD hJ) hS 10 cw_10 rfl 3 (by decide) (hts (.fieldLink "CodeJudge$Judge" 70 "CodeJudge$Shape" "arrayLocals" "I") tw_1_93) (fun _ h9 => h9) rfl (by decide +kernel) rfl rfl (Nat.le_of_ble_eq_true rfl) dJu_enter_79 (fun H locs hP _ hS => ?_)
        have hP := cwp_8 hP
        rw [hQ]
        exact W.vret hx hb hr (fun t ht hW => ⟨⟨((va_up (va_up (va_up (va_up (va_up I 0 0) 5 0) 6 0) 7 ((((1 : Int32) <<< (((va_up (va_up (va_up I 0 0) 5 0) 6 0) (21 + 10 * kx1)) &&& 31)) - 1) &&& (((va_up (va_up (va_up I 0 0) 5 0) 6 0) (22 + 10 * kx1)) ^^^ (-1)))) 8 ((va_up (va_up (va_up (va_up I 0 0) 5 0) 6 0) 7 ((((1 : Int32) <<< (((va_up (va_up (va_up I 0 0) 5 0) 6 0) (21 + 10 * kx1)) &&& 31)) - 1) &&& (((va_up (va_up (va_up I 0 0) 5 0) 6 0) (22 + 10 * kx1)) ^^^ (-1)))) (22 + 10 * kx1))), F), rfl, hw, by subst ht; exact hP⟩, hS.F ht⟩) hS.2.2 dJu_enter_82
      · have hw := hw.2 h1
        refine lv_aload_n hx hb dJu_enter_8 rfl (lv_at hl 0 rfl) ?_
        refine va_get (D := D) (v := .ref (a 4)) (ci := 2) (C := "CodeJudge$Judge") (T := T_Ju) (N := 8) hx hb hts in_Ju hown hK hP 2 cw_2 rfl 0 (by decide) (hts (.fieldLink "CodeJudge$Judge" 9 "CodeJudge$Judge" "heights" "[I") tw_1_105) (fun _ h9 => h9) rfl dJu_enter_9 ?_
        refine lv_iload_n hx hb dJu_enter_12 rfl (lv_at hl 2 rfl) ?_
        refine lv_iconst (v := (-1)) hx hb dJu_enter_13 (by decide) ?_
        obtain ⟨h2, hw⟩ := hw
        refine va_iast hx hb hK hP (cD hJ) hS 4 0 cw_4 rfl h2 dJu_enter_14 (fun H locs hP _ hS => ?_)
        have hP := cwa_4 hP
        refine lv_aload_n hx hb dJu_enter_15 rfl (lv_at hl 0 rfl) ?_
        refine va_get (D := D) (v := .ref (a 9)) (ci := 2) (C := "CodeJudge$Judge") (T := T_Ju) (N := 8) hx hb hts in_Ju hown hK hP 2 cw_2 rfl 5 (by decide) (hts (.fieldLink "CodeJudge$Judge" 27 "CodeJudge$Judge" "waits" "[Z") tw_1_110) (fun _ h9 => h9) rfl dJu_enter_16 ?_
        refine lv_iload_n hx hb dJu_enter_19 rfl (lv_at hl 2 rfl) ?_
        refine lv_iconst (v := 0) hx hb dJu_enter_20 (by decide) ?_
        obtain ⟨h3, hw⟩ := hw
        refine va_zast hx hb hK hP (cD hJ) hS 9 1 cw_9 rfl h3 dJu_enter_21 (fun H locs hP _ hS => ?_)
        have hP := cwa_9 hP
        obtain ⟨x4, e_x4⟩ : ∃ z : Int32, z = x2 + 1 := ⟨_, rfl⟩
        have hw := hw x4 e_x4
        refine lv_iinc (k := 2) (v := x4) (lv' := [(2, .int x4), (0, .ref (a 2)), (1, .ref (a (23 + 3 * kx1)))]) hx hb dJu_enter_22 hl rfl (e_x4 ▸ (by first | rfl | decide)) (by decide) rfl (fun ls hl => ?_)
        refine lv_goto (tgt := 2) hx hb dJu_enter_25 (by decide) ?_
        exact ih2 kx1 x4 I (va_up (va_up F 4 (upd (F 4) x2.toNatClampNeg (-1))) 9 (upd (F 9) x2.toNatClampNeg (vp_nar .boolean 0))) H locs ls hkx1 (lv_sub hl [1, 2, 0] rfl) hP hS hw
  suffices hM : ∀ (H : Heap) (locs : List Loc), va_P D vwCl (cw a cI cZ cQ I F) H → va_S (xA 47 a s.heap.size) s.heap H locs → W p l e (headSpec (Cond.code y_Ju_enter b_Ju_enter 3 none :: TB) { frames := 0, cells := 0, slots := 0, locals := 0 }).room s m ([.ref (a 2), .ref (a (23 + 3 * k1))]).toArray below meth c H locs 0 0 (Q) (F0 m 0 ls []) from hM s.heap [] hP va_S.rf
  clear hP
  intro H locs hP hS
  dsimp only [wp_Ju_enter] at hw
  refine lv_iconst (v := 0) hx hb dJu_enter_0 (by decide) ?_
  refine lv_istore_n (lv' := [(2, .int 0), (0, .ref (a 2)), (1, .ref (a (23 + 3 * k1)))]) hx hb dJu_enter_1 rfl hl (by decide) rfl (fun ls hl => ?_)
  obtain ⟨n2, hw⟩ := hw
  exact J2 n2 k1 0 I F H locs ls hk1 (lv_sub hl [1, 2, 0] rfl) hP hS hw
def wp_Me_has (k0 : Nat) (p1 : Int32) (I : SI) (F : SF) (Post : Int32 → SI → SF → Prop) : Prop := ∃ P1 : Int32 → SI → SF → Prop, wp_CJ_isBelow p1 (I (26 + 10 * k0)) I F P1 ∧ ∀ r1 I1 F1, P1 r1 I1 F1 → (bo r1 ∧ Post r1 I1 F1)
set_option maxHeartbeats 4000000 in
set_option maxRecDepth 100000 in
theorem c_Me_has (l : Launch) (D : va_G) (a : Nat → Nat) (cI cZ cQ : ClassId) (hJ : xJ 47 a) (I : SI) (F : SF) (k0 : Nat) (p1 : Int32) (hk0 : k0 < 8) (sz : Nat) (Post : Int32 → SI → SF → Prop) (hw : wp_Me_has k0 p1 I F Post) : Met l y_Me_has (Cond.code y_Me_has b_Me_has 2 (some .boolean) :: TB) { frames := 1, cells := 0, slots := 0, locals := 21 } (va_Pc [.ref (a (23 + 3 * k0)), .int p1] (cP D a cI cZ cQ I F sz)) (va_Qi (fun r (u : SI × SF) => Post r u.1 u.2) (fun u t => va_P D vwCl (cw a cI cZ cQ u.1 u.2) t.heap) (xA 47 a sz)) 0 0 (xA 47 a sz) := by
  refine Met.ofW (cc := b_Me_has) (maxL := 2) (ret := (some .boolean)) (by decide) rfl ?_
  intro p e s m args below meth c s₁ B hml hv
  obtain ⟨rfl, rfl, hP, hK, hN⟩ := hv
  have hx := B.exec
  have hb := B.bytes
  have hr := B.returns
  have hts : ∀ w ∈ TB, w.before _ s = true := fun w h => atoms_spec (ws := Cond.code y_Me_has b_Me_has 2 (some .boolean) :: TB) B.pre w (List.mem_cons_of_mem _ h)
  have hown : s.vm.findClass "CodeJudge$Method" = some m.cls := findClass_of_methodNamed B.named
  have hlocks := B.notSynchronized
  have hl := lv_entry ([.ref (a (23 + 3 * k0)), .int p1]) (n := 2) (Nat.le_of_ble_eq_true rfl)
  rw [lg_entry_eq]
  generalize (lg_sl ([.ref (a (23 + 3 * k0)), .int p1]) ++ List.replicate (2 - (lg_sl ([.ref (a (23 + 3 * k0)), .int p1])).length) Slot.unset).toArray = ls at hl ⊢
  have hl : lv_has ls 2 [(0, .ref (a (23 + 3 * k0))), (1, .int p1)] := hl
  suffices hM : ∀ (H : Heap) (locs : List Loc), va_P D vwCl (cw a cI cZ cQ I F) H → va_S (xA 47 a s.heap.size) s.heap H locs → W p l e (headSpec (Cond.code y_Me_has b_Me_has 2 (some .boolean) :: TB) { frames := 1, cells := 0, slots := 0, locals := 21 }).room s m ([.ref (a (23 + 3 * k0)), .int p1]).toArray below meth c H locs 0 0 (MQ below (va_Qi (fun r (u : SI × SF) => Post r u.1 u.2) (fun u t => va_P D vwCl (cw a cI cZ cQ u.1 u.2) t.heap) (xA 47 a s.heap.size)) ([.ref (a (23 + 3 * k0)), .int p1]).toArray s 0 0 (xA 47 a s.heap.size)) (F0 m 0 ls []) from hM s.heap [] hP va_S.rf
  clear hP
  intro H locs hP hS
  dsimp only [wp_Me_has] at hw
  refine lv_iload_n hx hb dMe_has_0 rfl (lv_at hl 1 rfl) ?_
  refine lv_aload_n hx hb dMe_has_1 rfl (lv_at hl 0 rfl) ?_
  refine va_get (D := D) (v := .int (I (26 + 10 * k0))) (ci := 4) (C := "CodeJudge$Method") (T := T_Me) (N := 9) hx hb hts in_Me hown hK hP (23 + 3 * k0) (cw_M hk0) rfl 6 (by decide) (hts (.fieldLink "CodeJudge$Method" 38 "CodeJudge$Method" "size" "I") tw_1_50) (fun _ h9 => h9) rfl dMe_has_2 ?_
  obtain ⟨P1, hc1, hw⟩ := hw
  refine cc_i (va_runSN (As := [.int p1, .int (I (26 + 10 * k0))]) (rest := []) ⟨hx, hb, hml, hown, hts⟩ (c_CJ_isBelow l D a cI cZ cQ hJ I F p1 (I (26 + 10 * k0)) H.size P1 hc1) (⟨va_cnB 2 hts (tb_self wc_CJ_isBelow) rfl rfl rfl (hN ("CodeJudge$Method", 45, ⟨"CodeJudge", "isBelow", "(II)Z"⟩, "CodeJudge") (by decide +kernel)) (hts (.initialized "CodeJudge") tw_1_1) (by decide +kernel) ⟨Nat.le_of_ble_eq_true rfl, Nat.le_of_ble_eq_true rfl⟩, hts (.static ⟨"CodeJudge", "isBelow", "(II)Z"⟩) tw_2_7, trivial⟩) ⟨cP_bl, cP_at hP hK hN⟩ rfl rfl hl.1 rfl (lv_room (Nat.le_of_ble_eq_true rfl)) dMe_has_5 ⟨Nat.le_of_ble_eq_true rfl, Nat.le_of_ble_eq_true rfl⟩) hS (fun r1 I1 F1 H locs hP hp1 hS => ?_)
  have hw := hw r1 I1 F1 hp1
  obtain ⟨h2, hw⟩ := hw
  exact W.zret (v := r1) hx hb hr (bo_n h2) (fun t ht hW => ⟨⟨r1, (I1, F1), rfl, hw, by subst ht; exact hP⟩, hS.F ht⟩) hS.2.2 dMe_has_8
def wp_Ju_await (p1 : Int32) (I : SI) (F : SF) (Post : SI → SF → Prop) : Prop := vp_in p1 120 ∧ ((¬ ((F 9) p1.toNatClampNeg) = 0 → (Post I F)) ∧ (((F 9) p1.toNatClampNeg) = 0 → ((120 ≤ (I 0) → (Post I F)) ∧ (¬ 120 ≤ (I 0) → (vp_in p1 120 ∧ (vp_in (I 0) 120 ∧ (Post (va_up I 0 ((I 0) + 1)) (va_up (va_up F 9 (upd (F 9) p1.toNatClampNeg (vp_nar .boolean 1))) 8 (upd (F 8) (I 0 : Int32).toNatClampNeg p1)))))))))
set_option maxHeartbeats 4000000 in
set_option maxRecDepth 100000 in
theorem c_Ju_await (l : Launch) (D : va_G) (a : Nat → Nat) (cI cZ cQ : ClassId) (hJ : xJ 47 a) (I : SI) (F : SF) (p1 : Int32) (sz : Nat) (Post : SI → SF → Prop) (hw : wp_Ju_await p1 I F Post) : Met l y_Ju_await (Cond.code y_Ju_await b_Ju_await 2 none :: TB) { frames := 0, cells := 0, slots := 0, locals := 0 } (va_Pc [.ref (a 2), .int p1] (cP D a cI cZ cQ I F sz)) (va_Qv (fun (u : SI × SF) => Post u.1 u.2) (fun u t => va_P D vwCl (cw a cI cZ cQ u.1 u.2) t.heap) (xA 47 a sz)) 0 0 (xA 47 a sz) := by
  refine Met.ofW (cc := b_Ju_await) (maxL := 2) (ret := none) (by decide) rfl ?_
  intro p e s m args below meth c s₁ B hml hv
  obtain ⟨rfl, rfl, hP, hK, hN⟩ := hv
  have hx := B.exec
  have hb := B.bytes
  have hr := B.returns
  have hts : ∀ w ∈ TB, w.before _ s = true := fun w h => atoms_spec (ws := Cond.code y_Ju_await b_Ju_await 2 none :: TB) B.pre w (List.mem_cons_of_mem _ h)
  have hown : s.vm.findClass "CodeJudge$Judge" = some m.cls := findClass_of_methodNamed B.named
  have hlocks := B.notSynchronized
  have hl := lv_entry ([.ref (a 2), .int p1]) (n := 2) (Nat.le_of_ble_eq_true rfl)
  rw [lg_entry_eq]
  generalize (lg_sl ([.ref (a 2), .int p1]) ++ List.replicate (2 - (lg_sl ([.ref (a 2), .int p1])).length) Slot.unset).toArray = ls at hl ⊢
  have hl : lv_has ls 2 [(0, .ref (a 2)), (1, .int p1)] := hl
  suffices hM : ∀ (H : Heap) (locs : List Loc), va_P D vwCl (cw a cI cZ cQ I F) H → va_S (xA 47 a s.heap.size) s.heap H locs → W p l e (headSpec (Cond.code y_Ju_await b_Ju_await 2 none :: TB) { frames := 0, cells := 0, slots := 0, locals := 0 }).room s m ([.ref (a 2), .int p1]).toArray below meth c H locs 0 0 (MQ below (va_Qv (fun (u : SI × SF) => Post u.1 u.2) (fun u t => va_P D vwCl (cw a cI cZ cQ u.1 u.2) t.heap) (xA 47 a s.heap.size)) ([.ref (a 2), .int p1]).toArray s 0 0 (xA 47 a s.heap.size)) (F0 m 0 ls []) from hM s.heap [] hP va_S.rf
  clear hP
  intro H locs hP hS
  dsimp only [wp_Ju_await] at hw
  refine lv_aload_n hx hb dJu_await_0 rfl (lv_at hl 0 rfl) ?_
  refine va_get (D := D) (v := .ref (a 9)) (ci := 2) (C := "CodeJudge$Judge") (T := T_Ju) (N := 8) hx hb hts in_Ju hown hK hP 2 cw_2 rfl 5 (by decide) (hts (.fieldLink "CodeJudge$Judge" 27 "CodeJudge$Judge" "waits" "[Z") tw_1_110) (fun _ h9 => h9) rfl dJu_await_1 ?_
  refine lv_iload_n hx hb dJu_await_4 rfl (lv_at hl 1 rfl) ?_
  obtain ⟨h1, hw⟩ := hw
  refine va_zald hx hb hK hP 9 1 cw_9 rfl h1 dJu_await_5 ?_
  refine lv_if_ne (tgt := 45) hx hb dJu_await_6 (by decide) (fun h2 => ?_) (fun h2 => ?_)
  · have hw := hw.1 h2
    exact W.vret hx hb hr (fun t ht hW => ⟨⟨(I, F), rfl, hw, by subst ht; exact hP⟩, hS.F ht⟩) hS.2.2 dJu_await_45
  · have hw := hw.2 h2
    refine lv_aload_n hx hb dJu_await_9 rfl (lv_at hl 0 rfl) ?_
    refine va_get (D := D) (v := .int (I 0)) (ci := 2) (C := "CodeJudge$Judge") (T := T_Ju) (N := 8) hx hb hts in_Ju hown hK hP 2 cw_2 rfl 6 (by decide) (hts (.fieldLink "CodeJudge$Judge" 46 "CodeJudge$Judge" "waitingSize" "I") tw_1_111) (fun _ h9 => h9) rfl dJu_await_10 ?_
    refine lv_bipush (v := 120) hx hb dJu_await_13 (by decide) ?_
    refine lv_icmp_ge (tgt := 45) hx hb dJu_await_15 (by decide) (fun h3 => ?_) (fun h3 => ?_)
    · have hw := hw.1 h3
      exact W.vret hx hb hr (fun t ht hW => ⟨⟨(I, F), rfl, hw, by subst ht; exact hP⟩, hS.F ht⟩) hS.2.2 dJu_await_45
    · have hw := hw.2 h3
      refine lv_aload_n hx hb dJu_await_18 rfl (lv_at hl 0 rfl) ?_
      refine va_get (D := D) (v := .ref (a 9)) (ci := 2) (C := "CodeJudge$Judge") (T := T_Ju) (N := 8) hx hb hts in_Ju hown hK hP 2 cw_2 rfl 5 (by decide) (hts (.fieldLink "CodeJudge$Judge" 27 "CodeJudge$Judge" "waits" "[Z") tw_1_110) (fun _ h9 => h9) rfl dJu_await_19 ?_
      refine lv_iload_n hx hb dJu_await_22 rfl (lv_at hl 1 rfl) ?_
      refine lv_iconst (v := 1) hx hb dJu_await_23 (by decide) ?_
      obtain ⟨h4, hw⟩ := hw
      refine va_zast hx hb hK hP (cD hJ) hS 9 1 cw_9 rfl h4 dJu_await_24 (fun H locs hP _ hS => ?_)
      have hP := cwa_9 hP
      refine lv_aload_n hx hb dJu_await_25 rfl (lv_at hl 0 rfl) ?_
      refine va_get (D := D) (v := .ref (a 8)) (ci := 2) (C := "CodeJudge$Judge") (T := T_Ju) (N := 8) hx hb hts in_Ju hown hK hP 2 cw_2 rfl 4 (by decide) (hts (.fieldLink "CodeJudge$Judge" 24 "CodeJudge$Judge" "waiting" "[I") tw_1_109) (fun _ h9 => h9) rfl dJu_await_26 ?_
      refine lv_aload_n hx hb dJu_await_29 rfl (lv_at hl 0 rfl) ?_
      refine va_get (D := D) (v := .int (I 0)) (ci := 2) (C := "CodeJudge$Judge") (T := T_Ju) (N := 8) hx hb hts in_Ju hown hK hP 2 cw_2 rfl 6 (by decide) (hts (.fieldLink "CodeJudge$Judge" 46 "CodeJudge$Judge" "waitingSize" "I") tw_1_111) (fun _ h9 => h9) rfl dJu_await_30 ?_
      refine lv_iload_n hx hb dJu_await_33 rfl (lv_at hl 1 rfl) ?_
      obtain ⟨h5, hw⟩ := hw
      refine va_iast hx hb hK hP (cD hJ) hS 8 0 cw_8 rfl h5 dJu_await_34 (fun H locs hP _ hS => ?_)
      have hP := cwa_8 hP
      refine lv_aload_n hx hb dJu_await_35 rfl (lv_at hl 0 rfl) ?_
      refine lv_dup hx hb dJu_await_36 rfl ?_
      refine va_get (D := D) (v := .int (I 0)) (ci := 2) (C := "CodeJudge$Judge") (T := T_Ju) (N := 8) hx hb hts in_Ju hown hK hP 2 cw_2 rfl 6 (by decide) (hts (.fieldLink "CodeJudge$Judge" 46 "CodeJudge$Judge" "waitingSize" "I") tw_1_111) (fun _ h9 => h9) rfl dJu_await_37 ?_
      refine lv_iconst (v := 1) hx hb dJu_await_40 (by decide) ?_
      refine lv_iadd hx hb dJu_await_41 ?_
      refine va_put (D := D) (ci := 2) (v := .int ((I 0) + 1)) (ty := .int) (C := "CodeJudge$Judge") (T := T_Ju) (N := 8) hx hb hts in_Ju ty_Ju ok_Ju nm_Ju hown hK hP (cD hJ) hS 2 cw_2 rfl 6 (by decide) (hts (.fieldLink "CodeJudge$Judge" 46 "CodeJudge$Judge" "waitingSize" "I") tw_1_111) (fun _ h9 => h9) rfl (by decide +kernel) rfl rfl (Nat.le_of_ble_eq_true rfl) dJu_await_42 (fun H locs hP _ hS => ?_)
      have hP := cwp_0 hP
      exact W.vret hx hb hr (fun t ht hW => ⟨⟨((va_up I 0 ((I 0) + 1)), (va_up (va_up F 9 (upd (F 9) p1.toNatClampNeg (vp_nar .boolean 1))) 8 (upd (F 8) (I 0 : Int32).toNatClampNeg p1))), rfl, hw, by subst ht; exact hP⟩, hS.F ht⟩) hS.2.2 dJu_await_45
def wp_Ju_arrive_165 (Post : Int32 → SI → SF → Prop) (x2 : Int32) (x3 : Int32) (x4 : Int32) (I : SI) (F : SF) : Prop := vp_in x2 120 ∧ (vp_in x2 120 ∧ (∃ P17 : SI → SF → Prop, wp_Ju_await x2 I (va_up (va_up F 6 (upd (F 6) x2.toNatClampNeg x3)) 7 (upd (F 7) x2.toNatClampNeg x4)) P17 ∧ ∀ I17 F17, P17 I17 F17 → (Post 1 I17 F17)))
def wp_Ju_arrive (k1 : Nat) (p2 : Int32) (I : SI) (F : SF) (Post : Int32 → SI → SF → Prop) : Prop := ∃ P1 : Int32 → SI → SF → Prop, wp_Me_has k1 p2 I F P1 ∧ ∀ r1 I1 F1, P1 r1 I1 F1 → ((¬ r1 = 0 → (vp_in p2 120 ∧ ((¬ ((F1 4) p2.toNatClampNeg) = (-1) → (vp_in p2 120 ∧ ((¬ ((F1 4) p2.toNatClampNeg) = (I1 5) → (Post 0 I1 F1)) ∧ (((F1 4) p2.toNatClampNeg) = (I1 5) → (vp_in p2 120 ∧ ((((F1 5) p2.toNatClampNeg) = (I1 6) → (vp_in p2 120 ∧ (∀ x10 : Int32, x10 = ((F1 6) p2.toNatClampNeg) &&& (I1 7) → (vp_in p2 120 ∧ (∀ x12 : Int32, x12 = ((F1 7) p2.toNatClampNeg) &&& (I1 8) → (vp_in p2 120 ∧ ((¬ x10 = ((F1 6) p2.toNatClampNeg) → (wp_Ju_arrive_165 Post p2 x10 x12 I1 F1)) ∧ (x10 = ((F1 6) p2.toNatClampNeg) → (vp_in p2 120 ∧ ((x12 = ((F1 7) p2.toNatClampNeg) → (Post 1 I1 F1)) ∧ (¬ x12 = ((F1 7) p2.toNatClampNeg) → (wp_Ju_arrive_165 Post p2 x10 x12 I1 F1)))))))))))) ∧ (¬ ((F1 5) p2.toNatClampNeg) = (I1 6) → (Post 0 I1 F1)))))))) ∧ (((F1 4) p2.toNatClampNeg) = (-1) → (vp_in p2 120 ∧ (vp_in p2 120 ∧ (vp_in p2 120 ∧ (vp_in p2 120 ∧ (∃ P24 : SI → SF → Prop, wp_Ju_await p2 I1 (va_up (va_up (va_up (va_up F1 4 (upd (F1 4) p2.toNatClampNeg (I1 5))) 5 (upd (F1 5) p2.toNatClampNeg (I1 6))) 6 (upd (F1 6) p2.toNatClampNeg (I1 7))) 7 (upd (F1 7) p2.toNatClampNeg (I1 8))) P24 ∧ ∀ I24 F24, P24 I24 F24 → (Post 1 I24 F24)))))))))) ∧ (r1 = 0 → (Post 0 I1 F1)))
set_option maxHeartbeats 4000000 in
set_option maxRecDepth 100000 in
theorem c_Ju_arrive (l : Launch) (D : va_G) (a : Nat → Nat) (cI cZ cQ : ClassId) (hJ : xJ 47 a) (I : SI) (F : SF) (k1 : Nat) (p2 : Int32) (hk1 : k1 < 8) (sz : Nat) (Post : Int32 → SI → SF → Prop) (hw : wp_Ju_arrive k1 p2 I F Post) : Met l y_Ju_arrive (Cond.code y_Ju_arrive b_Ju_arrive 5 (some .boolean) :: TB) { frames := 2, cells := 0, slots := 0, locals := 42 } (va_Pc [.ref (a 2), .ref (a (23 + 3 * k1)), .int p2] (cP D a cI cZ cQ I F sz)) (va_Qi (fun r (u : SI × SF) => Post r u.1 u.2) (fun u t => va_P D vwCl (cw a cI cZ cQ u.1 u.2) t.heap) (xA 47 a sz)) 0 0 (xA 47 a sz) := by
  refine Met.ofW (cc := b_Ju_arrive) (maxL := 5) (ret := (some .boolean)) (by decide) rfl ?_
  intro p e s m args below meth c s₁ B hml hv
  obtain ⟨rfl, rfl, hP, hK, hN⟩ := hv
  have hx := B.exec
  have hb := B.bytes
  have hr := B.returns
  have hts : ∀ w ∈ TB, w.before _ s = true := fun w h => atoms_spec (ws := Cond.code y_Ju_arrive b_Ju_arrive 5 (some .boolean) :: TB) B.pre w (List.mem_cons_of_mem _ h)
  have hown : s.vm.findClass "CodeJudge$Judge" = some m.cls := findClass_of_methodNamed B.named
  have hlocks := B.notSynchronized
  have hl := lv_entry ([.ref (a 2), .ref (a (23 + 3 * k1)), .int p2]) (n := 5) (Nat.le_of_ble_eq_true rfl)
  rw [lg_entry_eq]
  generalize (lg_sl ([.ref (a 2), .ref (a (23 + 3 * k1)), .int p2]) ++ List.replicate (5 - (lg_sl ([.ref (a 2), .ref (a (23 + 3 * k1)), .int p2])).length) Slot.unset).toArray = ls at hl ⊢
  have hl : lv_has ls 5 [(0, .ref (a 2)), (1, .ref (a (23 + 3 * k1))), (2, .int p2)] := hl
  obtain ⟨Q, hQ⟩ : ∃ Q, Q = MQ below (va_Qi (fun r (u : SI × SF) => Post r u.1 u.2) (fun u t => va_P D vwCl (cw a cI cZ cQ u.1 u.2) t.heap) (xA 47 a s.heap.size)) ([.ref (a 2), .ref (a (23 + 3 * k1)), .int p2]).toArray s 0 0 (xA 47 a s.heap.size) := ⟨_, rfl⟩
  rw [← hQ]
  have J165 : ∀ (x2 : Int32) (x3 : Int32) (x4 : Int32) (I : SI) (F : SF) (H : Heap) (locs : List Loc) (ls : Array Slot), lv_has ls 5 [(0, .ref (a 2)), (2, .int x2), (3, .int x3), (4, .int x4)] → va_P D vwCl (cw a cI cZ cQ I F) H → va_S (xA 47 a s.heap.size) s.heap H locs → wp_Ju_arrive_165 Post x2 x3 x4 I F → W p l e (headSpec (Cond.code y_Ju_arrive b_Ju_arrive 5 (some .boolean) :: TB) { frames := 2, cells := 0, slots := 0, locals := 42 }).room s m ([.ref (a 2), .ref (a (23 + 3 * k1)), .int p2]).toArray below meth c H locs 0 0 Q (F0 m 165 ls []) := by
    intro x2 x3 x4 I F H locs ls hl hP hS hw
    dsimp only [wp_Ju_arrive_165] at hw
    refine lv_aload_n hx hb dJu_arrive_165 rfl (lv_at hl 0 rfl) ?_
    refine va_get (D := D) (v := .ref (a 6)) (ci := 2) (C := "CodeJudge$Judge") (T := T_Ju) (N := 8) hx hb hts in_Ju hown hK hP 2 cw_2 rfl 2 (by decide) (hts (.fieldLink "CodeJudge$Judge" 18 "CodeJudge$Judge" "intLocals" "[I") tw_1_107) (fun _ h9 => h9) rfl dJu_arrive_166 ?_
    refine lv_iload_n hx hb dJu_arrive_169 rfl (lv_at hl 1 rfl) ?_
    refine lv_iload_n hx hb dJu_arrive_170 rfl (lv_at hl 2 rfl) ?_
    obtain ⟨h15, hw⟩ := hw
    refine va_iast hx hb hK hP (cD hJ) hS 6 0 cw_6 rfl h15 dJu_arrive_171 (fun H locs hP _ hS => ?_)
    have hP := cwa_6 hP
    refine lv_aload_n hx hb dJu_arrive_172 rfl (lv_at hl 0 rfl) ?_
    refine va_get (D := D) (v := .ref (a 7)) (ci := 2) (C := "CodeJudge$Judge") (T := T_Ju) (N := 8) hx hb hts in_Ju hown hK hP 2 cw_2 rfl 3 (by decide) (hts (.fieldLink "CodeJudge$Judge" 21 "CodeJudge$Judge" "arrayLocals" "[I") tw_1_108) (fun _ h9 => h9) rfl dJu_arrive_173 ?_
    refine lv_iload_n hx hb dJu_arrive_176 rfl (lv_at hl 1 rfl) ?_
    refine lv_iload hx hb dJu_arrive_177 (lv_at hl 3 rfl) ?_
    obtain ⟨h16, hw⟩ := hw
    refine va_iast hx hb hK hP (cD hJ) hS 7 0 cw_7 rfl h16 dJu_arrive_179 (fun H locs hP _ hS => ?_)
    have hP := cwa_7 hP
    refine lv_aload_n hx hb dJu_arrive_180 rfl (lv_at hl 0 rfl) ?_
    refine lv_iload_n hx hb dJu_arrive_181 rfl (lv_at hl 1 rfl) ?_
    obtain ⟨P17, hc17, hw⟩ := hw
    refine cc_v (va_runV (As := [.int x2]) (rest := []) ⟨hx, hb, hml, hown, hts⟩ (c_Ju_await l D a cI cZ cQ hJ I (va_up (va_up F 6 (upd (F 6) x2.toNatClampNeg x3)) 7 (upd (F 7) x2.toNatClampNeg x4)) x2 H.size P17 hc17) (cwV 1 hts (tb_V (C := "CodeJudge$Judge") wc_Ju_await tw_2_182 tw_2_184 tw_0_5 tw_1_3) rfl rfl rfl (by decide +kernel) ⟨Nat.le_of_ble_eq_true rfl, Nat.le_of_ble_eq_true rfl⟩) ⟨cP_bl, va_recv hK hP rfl cw_2, cP_at hP hK hN⟩ rfl rfl hl.1 rfl (lv_room (Nat.le_of_ble_eq_true rfl)) dJu_arrive_182 ⟨Nat.le_of_ble_eq_true rfl, Nat.le_of_ble_eq_true rfl⟩) hS (fun I17 F17 H locs hP hp17 hS => ?_)
    have hw := hw I17 F17 hp17
    refine lv_iconst (v := 1) hx hb dJu_arrive_185 (by decide) ?_
    rw [hQ]
    exact W.zret (v := 1) hx hb hr rfl (fun t ht hW => ⟨⟨1, (I17, F17), rfl, hw, by subst ht; exact hP⟩, hS.F ht⟩) hS.2.2 dJu_arrive_186
  suffices hM : ∀ (H : Heap) (locs : List Loc), va_P D vwCl (cw a cI cZ cQ I F) H → va_S (xA 47 a s.heap.size) s.heap H locs → W p l e (headSpec (Cond.code y_Ju_arrive b_Ju_arrive 5 (some .boolean) :: TB) { frames := 2, cells := 0, slots := 0, locals := 42 }).room s m ([.ref (a 2), .ref (a (23 + 3 * k1)), .int p2]).toArray below meth c H locs 0 0 (Q) (F0 m 0 ls []) from hM s.heap [] hP va_S.rf
  clear hP
  intro H locs hP hS
  dsimp only [wp_Ju_arrive] at hw
  refine lv_aload_n hx hb dJu_arrive_0 rfl (lv_at hl 1 rfl) ?_
  refine lv_iload_n hx hb dJu_arrive_1 rfl (lv_at hl 2 rfl) ?_
  obtain ⟨P1, hc1, hw⟩ := hw
  refine cc_i (va_runV (As := [.int p2]) (rest := []) ⟨hx, hb, hml, hown, hts⟩ (c_Me_has l D a cI cZ cQ hJ I F k1 p2 hk1 H.size P1 hc1) (cwV 1 hts (tb_V (C := "CodeJudge$Method") wc_Me_has tw_2_181 tw_2_138 tw_2_139 tw_1_2) rfl rfl rfl (by decide +kernel) ⟨Nat.le_of_ble_eq_true rfl, Nat.le_of_ble_eq_true rfl⟩) ⟨cP_bl, va_recv hK hP rfl (cw_M hk1), cP_at hP hK hN⟩ rfl rfl hl.1 rfl (lv_room (Nat.le_of_ble_eq_true rfl)) dJu_arrive_2 ⟨Nat.le_of_ble_eq_true rfl, Nat.le_of_ble_eq_true rfl⟩) hS (fun r1 I1 F1 H locs hP hp1 hS => ?_)
  have hw := hw r1 I1 F1 hp1
  refine lv_if_ne (tgt := 10) hx hb dJu_arrive_5 (by decide) (fun h2 => ?_) (fun h2 => ?_)
  · have hw := hw.1 h2
    refine lv_aload_n hx hb dJu_arrive_10 rfl (lv_at hl 0 rfl) ?_
    refine va_get (D := D) (v := .ref (a 4)) (ci := 2) (C := "CodeJudge$Judge") (T := T_Ju) (N := 8) hx hb hts in_Ju hown hK hP 2 cw_2 rfl 0 (by decide) (hts (.fieldLink "CodeJudge$Judge" 9 "CodeJudge$Judge" "heights" "[I") tw_1_105) (fun _ h9 => h9) rfl dJu_arrive_11 ?_
    refine lv_iload_n hx hb dJu_arrive_14 rfl (lv_at hl 2 rfl) ?_
    obtain ⟨h3, hw⟩ := hw
    refine va_iald hx hb hK hP 4 0 cw_4 rfl h3 dJu_arrive_15 ?_
    refine lv_iconst (v := (-1)) hx hb dJu_arrive_16 (by decide) ?_
    refine lv_icmp_ne (tgt := 79) hx hb dJu_arrive_17 (by decide) (fun h4 => ?_) (fun h4 => ?_)
    · have hw := hw.1 h4
      refine lv_aload_n hx hb dJu_arrive_79 rfl (lv_at hl 0 rfl) ?_
      refine va_get (D := D) (v := .ref (a 4)) (ci := 2) (C := "CodeJudge$Judge") (T := T_Ju) (N := 8) hx hb hts in_Ju hown hK hP 2 cw_2 rfl 0 (by decide) (hts (.fieldLink "CodeJudge$Judge" 9 "CodeJudge$Judge" "heights" "[I") tw_1_105) (fun _ h9 => h9) rfl dJu_arrive_80 ?_
      refine lv_iload_n hx hb dJu_arrive_83 rfl (lv_at hl 2 rfl) ?_
      obtain ⟨h5, hw⟩ := hw
      refine va_iald hx hb hK hP 4 0 cw_4 rfl h5 dJu_arrive_84 ?_
      refine lv_aload_n hx hb dJu_arrive_85 rfl (lv_at hl 0 rfl) ?_
      refine va_get (D := D) (v := .ref (a 10)) (ci := 2) (C := "CodeJudge$Judge") (T := T_Ju) (N := 8) hx hb hts in_Ju hown hK hP 2 cw_2 rfl 7 (by decide) (hts (.fieldLink "CodeJudge$Judge" 34 "CodeJudge$Judge" "now" "LCodeJudge$Shape;") tw_1_112) (fun _ h9 => h9) rfl dJu_arrive_86 ?_
      refine va_get (D := D) (v := .int (I1 5)) (ci := 6) (C := "CodeJudge$Shape") (T := T_Sh) (N := 4) hx hb hts in_Sh hown hK hP 10 cw_10 rfl 0 (by decide) (hts (.fieldLink "CodeJudge$Judge" 54 "CodeJudge$Shape" "high" "I") tw_1_88) (fun _ h9 => h9) rfl dJu_arrive_89 ?_
      refine lv_icmp_ne (tgt := 111) hx hb dJu_arrive_92 (by decide) (fun h6 => ?_) (fun h6 => ?_)
      · have hw := hw.1 h6
        refine lv_iconst (v := 0) hx hb dJu_arrive_111 (by decide) ?_
        rw [hQ]
        exact W.zret (v := 0) hx hb hr rfl (fun t ht hW => ⟨⟨0, (I1, F1), rfl, hw, by subst ht; exact hP⟩, hS.F ht⟩) hS.2.2 dJu_arrive_112
      · have hw := hw.2 h6
        refine lv_aload_n hx hb dJu_arrive_95 rfl (lv_at hl 0 rfl) ?_
        refine va_get (D := D) (v := .ref (a 5)) (ci := 2) (C := "CodeJudge$Judge") (T := T_Ju) (N := 8) hx hb hts in_Ju hown hK hP 2 cw_2 rfl 1 (by decide) (hts (.fieldLink "CodeJudge$Judge" 15 "CodeJudge$Judge" "stacks" "[I") tw_1_106) (fun _ h9 => h9) rfl dJu_arrive_96 ?_
        refine lv_iload_n hx hb dJu_arrive_99 rfl (lv_at hl 2 rfl) ?_
        obtain ⟨h7, hw⟩ := hw
        refine va_iald hx hb hK hP 5 0 cw_5 rfl h7 dJu_arrive_100 ?_
        refine lv_aload_n hx hb dJu_arrive_101 rfl (lv_at hl 0 rfl) ?_
        refine va_get (D := D) (v := .ref (a 10)) (ci := 2) (C := "CodeJudge$Judge") (T := T_Ju) (N := 8) hx hb hts in_Ju hown hK hP 2 cw_2 rfl 7 (by decide) (hts (.fieldLink "CodeJudge$Judge" 34 "CodeJudge$Judge" "now" "LCodeJudge$Shape;") tw_1_112) (fun _ h9 => h9) rfl dJu_arrive_102 ?_
        refine va_get (D := D) (v := .int (I1 6)) (ci := 6) (C := "CodeJudge$Shape") (T := T_Sh) (N := 4) hx hb hts in_Sh hown hK hP 10 cw_10 rfl 1 (by decide) (hts (.fieldLink "CodeJudge$Judge" 57 "CodeJudge$Shape" "stack" "I") tw_1_90) (fun _ h9 => h9) rfl dJu_arrive_105 ?_
        refine lv_icmp_eq (tgt := 113) hx hb dJu_arrive_108 (by decide) (fun h8 => ?_) (fun h8 => ?_)
        · have hw := hw.1 h8
          refine lv_aload_n hx hb dJu_arrive_113 rfl (lv_at hl 0 rfl) ?_
          refine va_get (D := D) (v := .ref (a 6)) (ci := 2) (C := "CodeJudge$Judge") (T := T_Ju) (N := 8) hx hb hts in_Ju hown hK hP 2 cw_2 rfl 2 (by decide) (hts (.fieldLink "CodeJudge$Judge" 18 "CodeJudge$Judge" "intLocals" "[I") tw_1_107) (fun _ h9 => h9) rfl dJu_arrive_114 ?_
          refine lv_iload_n hx hb dJu_arrive_117 rfl (lv_at hl 2 rfl) ?_
          obtain ⟨h9, hw⟩ := hw
          refine va_iald hx hb hK hP 6 0 cw_6 rfl h9 dJu_arrive_118 ?_
          refine lv_aload_n hx hb dJu_arrive_119 rfl (lv_at hl 0 rfl) ?_
          refine va_get (D := D) (v := .ref (a 10)) (ci := 2) (C := "CodeJudge$Judge") (T := T_Ju) (N := 8) hx hb hts in_Ju hown hK hP 2 cw_2 rfl 7 (by decide) (hts (.fieldLink "CodeJudge$Judge" 34 "CodeJudge$Judge" "now" "LCodeJudge$Shape;") tw_1_112) (fun _ h9 => h9) rfl dJu_arrive_120 ?_
          refine va_get (D := D) (v := .int (I1 7)) (ci := 6) (C := "CodeJudge$Shape") (T := T_Sh) (N := 4) hx hb hts in_Sh hown hK hP 10 cw_10 rfl 2 (by decide) (hts (.fieldLink "CodeJudge$Judge" 68 "CodeJudge$Shape" "intLocals" "I") tw_1_91) (fun _ h9 => h9) rfl dJu_arrive_123 ?_
          refine lv_iand hx hb dJu_arrive_126 ?_
          refine lv_topi (fun x10 e_x10 => ?_)
          have hw := hw x10 e_x10
          refine lv_istore_n (lv' := [(3, .int x10), (0, .ref (a 2)), (1, .ref (a (23 + 3 * k1))), (2, .int p2)]) hx hb dJu_arrive_127 rfl hl (by decide) rfl (fun ls hl => ?_)
          refine lv_aload_n hx hb dJu_arrive_128 rfl (lv_at hl 1 rfl) ?_
          refine va_get (D := D) (v := .ref (a 7)) (ci := 2) (C := "CodeJudge$Judge") (T := T_Ju) (N := 8) hx hb hts in_Ju hown hK hP 2 cw_2 rfl 3 (by decide) (hts (.fieldLink "CodeJudge$Judge" 21 "CodeJudge$Judge" "arrayLocals" "[I") tw_1_108) (fun _ h9 => h9) rfl dJu_arrive_129 ?_
          refine lv_iload_n hx hb dJu_arrive_132 rfl (lv_at hl 3 rfl) ?_
          obtain ⟨h11, hw⟩ := hw
          refine va_iald hx hb hK hP 7 0 cw_7 rfl h11 dJu_arrive_133 ?_
          refine lv_aload_n hx hb dJu_arrive_134 rfl (lv_at hl 1 rfl) ?_
          refine va_get (D := D) (v := .ref (a 10)) (ci := 2) (C := "CodeJudge$Judge") (T := T_Ju) (N := 8) hx hb hts in_Ju hown hK hP 2 cw_2 rfl 7 (by decide) (hts (.fieldLink "CodeJudge$Judge" 34 "CodeJudge$Judge" "now" "LCodeJudge$Shape;") tw_1_112) (fun _ h9 => h9) rfl dJu_arrive_135 ?_
          refine va_get (D := D) (v := .int (I1 8)) (ci := 6) (C := "CodeJudge$Shape") (T := T_Sh) (N := 4) hx hb hts in_Sh hown hK hP 10 cw_10 rfl 3 (by decide) (hts (.fieldLink "CodeJudge$Judge" 70 "CodeJudge$Shape" "arrayLocals" "I") tw_1_93) (fun _ h9 => h9) rfl dJu_arrive_138 ?_
          refine lv_iand hx hb dJu_arrive_141 ?_
          refine lv_topi (fun x12 e_x12 => ?_)
          have hw := hw x12 e_x12
          refine lv_istore (lv' := [(4, .int x12), (3, .int x10), (0, .ref (a 2)), (1, .ref (a (23 + 3 * k1))), (2, .int p2)]) hx hb dJu_arrive_142 hl (by decide) rfl (fun ls hl => ?_)
          refine lv_iload_n hx hb dJu_arrive_144 rfl (lv_at hl 1 rfl) ?_
          refine lv_aload_n hx hb dJu_arrive_145 rfl (lv_at hl 2 rfl) ?_
          refine va_get (D := D) (v := .ref (a 6)) (ci := 2) (C := "CodeJudge$Judge") (T := T_Ju) (N := 8) hx hb hts in_Ju hown hK hP 2 cw_2 rfl 2 (by decide) (hts (.fieldLink "CodeJudge$Judge" 18 "CodeJudge$Judge" "intLocals" "[I") tw_1_107) (fun _ h9 => h9) rfl dJu_arrive_146 ?_
          refine lv_iload_n hx hb dJu_arrive_149 rfl (lv_at hl 4 rfl) ?_
          obtain ⟨h13, hw⟩ := hw
          refine va_iald hx hb hK hP 6 0 cw_6 rfl h13 dJu_arrive_150 ?_
          refine lv_icmp_ne (tgt := 165) hx hb dJu_arrive_151 (by decide) (fun h14 => ?_) (fun h14 => ?_)
          · have hw := hw.1 h14
            exact J165 p2 x10 x12 I1 F1 H locs ls (lv_sub hl [2, 4, 1, 0] rfl) hP hS hw
          · have hw := hw.2 h14
            refine lv_iload hx hb dJu_arrive_154 (lv_at hl 0 rfl) ?_
            refine lv_aload_n hx hb dJu_arrive_156 rfl (lv_at hl 2 rfl) ?_
            refine va_get (D := D) (v := .ref (a 7)) (ci := 2) (C := "CodeJudge$Judge") (T := T_Ju) (N := 8) hx hb hts in_Ju hown hK hP 2 cw_2 rfl 3 (by decide) (hts (.fieldLink "CodeJudge$Judge" 21 "CodeJudge$Judge" "arrayLocals" "[I") tw_1_108) (fun _ h9 => h9) rfl dJu_arrive_157 ?_
            refine lv_iload_n hx hb dJu_arrive_160 rfl (lv_at hl 4 rfl) ?_
            obtain ⟨h18, hw⟩ := hw
            refine va_iald hx hb hK hP 7 0 cw_7 rfl h18 dJu_arrive_161 ?_
            refine lv_icmp_eq (tgt := 185) hx hb dJu_arrive_162 (by decide) (fun h19 => ?_) (fun h19 => ?_)
            · have hw := hw.1 h19
              refine lv_iconst (v := 1) hx hb dJu_arrive_185 (by decide) ?_
              rw [hQ]
              exact W.zret (v := 1) hx hb hr rfl (fun t ht hW => ⟨⟨1, (I1, F1), rfl, hw, by subst ht; exact hP⟩, hS.F ht⟩) hS.2.2 dJu_arrive_186
            · have hw := hw.2 h19
              exact J165 p2 x10 x12 I1 F1 H locs ls (lv_sub hl [2, 4, 1, 0] rfl) hP hS hw
        · have hw := hw.2 h8
          refine lv_iconst (v := 0) hx hb dJu_arrive_111 (by decide) ?_
          rw [hQ]
          exact W.zret (v := 0) hx hb hr rfl (fun t ht hW => ⟨⟨0, (I1, F1), rfl, hw, by subst ht; exact hP⟩, hS.F ht⟩) hS.2.2 dJu_arrive_112
    · have hw := hw.2 h4
      refine lv_aload_n hx hb dJu_arrive_20 rfl (lv_at hl 0 rfl) ?_
      refine va_get (D := D) (v := .ref (a 4)) (ci := 2) (C := "CodeJudge$Judge") (T := T_Ju) (N := 8) hx hb hts in_Ju hown hK hP 2 cw_2 rfl 0 (by decide) (hts (.fieldLink "CodeJudge$Judge" 9 "CodeJudge$Judge" "heights" "[I") tw_1_105) (fun _ h9 => h9) rfl dJu_arrive_21 ?_
      refine lv_iload_n hx hb dJu_arrive_24 rfl (lv_at hl 2 rfl) ?_
      refine lv_aload_n hx hb dJu_arrive_25 rfl (lv_at hl 0 rfl) ?_
      refine va_get (D := D) (v := .ref (a 10)) (ci := 2) (C := "CodeJudge$Judge") (T := T_Ju) (N := 8) hx hb hts in_Ju hown hK hP 2 cw_2 rfl 7 (by decide) (hts (.fieldLink "CodeJudge$Judge" 34 "CodeJudge$Judge" "now" "LCodeJudge$Shape;") tw_1_112) (fun _ h9 => h9) rfl dJu_arrive_26 ?_
      refine va_get (D := D) (v := .int (I1 5)) (ci := 6) (C := "CodeJudge$Shape") (T := T_Sh) (N := 4) hx hb hts in_Sh hown hK hP 10 cw_10 rfl 0 (by decide) (hts (.fieldLink "CodeJudge$Judge" 54 "CodeJudge$Shape" "high" "I") tw_1_88) (fun _ h9 => h9) rfl dJu_arrive_29 ?_
      obtain ⟨h20, hw⟩ := hw
      refine va_iast hx hb hK hP (cD hJ) hS 4 0 cw_4 rfl h20 dJu_arrive_32 (fun H locs hP _ hS => ?_)
      have hP := cwa_4 hP
      refine lv_aload_n hx hb dJu_arrive_33 rfl (lv_at hl 0 rfl) ?_
      refine va_get (D := D) (v := .ref (a 5)) (ci := 2) (C := "CodeJudge$Judge") (T := T_Ju) (N := 8) hx hb hts in_Ju hown hK hP 2 cw_2 rfl 1 (by decide) (hts (.fieldLink "CodeJudge$Judge" 15 "CodeJudge$Judge" "stacks" "[I") tw_1_106) (fun _ h9 => h9) rfl dJu_arrive_34 ?_
      refine lv_iload_n hx hb dJu_arrive_37 rfl (lv_at hl 2 rfl) ?_
      refine lv_aload_n hx hb dJu_arrive_38 rfl (lv_at hl 0 rfl) ?_
      refine va_get (D := D) (v := .ref (a 10)) (ci := 2) (C := "CodeJudge$Judge") (T := T_Ju) (N := 8) hx hb hts in_Ju hown hK hP 2 cw_2 rfl 7 (by decide) (hts (.fieldLink "CodeJudge$Judge" 34 "CodeJudge$Judge" "now" "LCodeJudge$Shape;") tw_1_112) (fun _ h9 => h9) rfl dJu_arrive_39 ?_
      refine va_get (D := D) (v := .int (I1 6)) (ci := 6) (C := "CodeJudge$Shape") (T := T_Sh) (N := 4) hx hb hts in_Sh hown hK hP 10 cw_10 rfl 1 (by decide) (hts (.fieldLink "CodeJudge$Judge" 57 "CodeJudge$Shape" "stack" "I") tw_1_90) (fun _ h9 => h9) rfl dJu_arrive_42 ?_
      obtain ⟨h21, hw⟩ := hw
      refine va_iast hx hb hK hP (cD hJ) hS 5 0 cw_5 rfl h21 dJu_arrive_45 (fun H locs hP _ hS => ?_)
      have hP := cwa_5 hP
      refine lv_aload_n hx hb dJu_arrive_46 rfl (lv_at hl 0 rfl) ?_
      refine va_get (D := D) (v := .ref (a 6)) (ci := 2) (C := "CodeJudge$Judge") (T := T_Ju) (N := 8) hx hb hts in_Ju hown hK hP 2 cw_2 rfl 2 (by decide) (hts (.fieldLink "CodeJudge$Judge" 18 "CodeJudge$Judge" "intLocals" "[I") tw_1_107) (fun _ h9 => h9) rfl dJu_arrive_47 ?_
      refine lv_iload_n hx hb dJu_arrive_50 rfl (lv_at hl 2 rfl) ?_
      refine lv_aload_n hx hb dJu_arrive_51 rfl (lv_at hl 0 rfl) ?_
      refine va_get (D := D) (v := .ref (a 10)) (ci := 2) (C := "CodeJudge$Judge") (T := T_Ju) (N := 8) hx hb hts in_Ju hown hK hP 2 cw_2 rfl 7 (by decide) (hts (.fieldLink "CodeJudge$Judge" 34 "CodeJudge$Judge" "now" "LCodeJudge$Shape;") tw_1_112) (fun _ h9 => h9) rfl dJu_arrive_52 ?_
      refine va_get (D := D) (v := .int (I1 7)) (ci := 6) (C := "CodeJudge$Shape") (T := T_Sh) (N := 4) hx hb hts in_Sh hown hK hP 10 cw_10 rfl 2 (by decide) (hts (.fieldLink "CodeJudge$Judge" 68 "CodeJudge$Shape" "intLocals" "I") tw_1_91) (fun _ h9 => h9) rfl dJu_arrive_55 ?_
      obtain ⟨h22, hw⟩ := hw
      refine va_iast hx hb hK hP (cD hJ) hS 6 0 cw_6 rfl h22 dJu_arrive_58 (fun H locs hP _ hS => ?_)
      have hP := cwa_6 hP
      refine lv_aload_n hx hb dJu_arrive_59 rfl (lv_at hl 0 rfl) ?_
      refine va_get (D := D) (v := .ref (a 7)) (ci := 2) (C := "CodeJudge$Judge") (T := T_Ju) (N := 8) hx hb hts in_Ju hown hK hP 2 cw_2 rfl 3 (by decide) (hts (.fieldLink "CodeJudge$Judge" 21 "CodeJudge$Judge" "arrayLocals" "[I") tw_1_108) (fun _ h9 => h9) rfl dJu_arrive_60 ?_
      refine lv_iload_n hx hb dJu_arrive_63 rfl (lv_at hl 2 rfl) ?_
      refine lv_aload_n hx hb dJu_arrive_64 rfl (lv_at hl 0 rfl) ?_
      refine va_get (D := D) (v := .ref (a 10)) (ci := 2) (C := "CodeJudge$Judge") (T := T_Ju) (N := 8) hx hb hts in_Ju hown hK hP 2 cw_2 rfl 7 (by decide) (hts (.fieldLink "CodeJudge$Judge" 34 "CodeJudge$Judge" "now" "LCodeJudge$Shape;") tw_1_112) (fun _ h9 => h9) rfl dJu_arrive_65 ?_
      refine va_get (D := D) (v := .int (I1 8)) (ci := 6) (C := "CodeJudge$Shape") (T := T_Sh) (N := 4) hx hb hts in_Sh hown hK hP 10 cw_10 rfl 3 (by decide) (hts (.fieldLink "CodeJudge$Judge" 70 "CodeJudge$Shape" "arrayLocals" "I") tw_1_93) (fun _ h9 => h9) rfl dJu_arrive_68 ?_
      obtain ⟨h23, hw⟩ := hw
      refine va_iast hx hb hK hP (cD hJ) hS 7 0 cw_7 rfl h23 dJu_arrive_71 (fun H locs hP _ hS => ?_)
      have hP := cwa_7 hP
      refine lv_aload_n hx hb dJu_arrive_72 rfl (lv_at hl 0 rfl) ?_
      refine lv_iload_n hx hb dJu_arrive_73 rfl (lv_at hl 2 rfl) ?_
      obtain ⟨P24, hc24, hw⟩ := hw
      refine cc_v (va_runV (As := [.int p2]) (rest := []) ⟨hx, hb, hml, hown, hts⟩ (c_Ju_await l D a cI cZ cQ hJ I1 (va_up (va_up (va_up (va_up F1 4 (upd (F1 4) p2.toNatClampNeg (I1 5))) 5 (upd (F1 5) p2.toNatClampNeg (I1 6))) 6 (upd (F1 6) p2.toNatClampNeg (I1 7))) 7 (upd (F1 7) p2.toNatClampNeg (I1 8))) p2 H.size P24 hc24) (cwV 1 hts (tb_V (C := "CodeJudge$Judge") wc_Ju_await tw_2_182 tw_2_184 tw_0_5 tw_1_3) rfl rfl rfl (by decide +kernel) ⟨Nat.le_of_ble_eq_true rfl, Nat.le_of_ble_eq_true rfl⟩) ⟨cP_bl, va_recv hK hP rfl cw_2, cP_at hP hK hN⟩ rfl rfl hl.1 rfl (lv_room (Nat.le_of_ble_eq_true rfl)) dJu_arrive_74 ⟨Nat.le_of_ble_eq_true rfl, Nat.le_of_ble_eq_true rfl⟩) hS (fun I24 F24 H locs hP hp24 hS => ?_)
      have hw := hw I24 F24 hp24
      refine lv_iconst (v := 1) hx hb dJu_arrive_77 (by decide) ?_
      rw [hQ]
      exact W.zret (v := 1) hx hb hr rfl (fun t ht hW => ⟨⟨1, (I24, F24), rfl, hw, by subst ht; exact hP⟩, hS.F ht⟩) hS.2.2 dJu_arrive_78
  · have hw := hw.2 h2
    refine lv_iconst (v := 0) hx hb dJu_arrive_8 (by decide) ?_
    rw [hQ]
    exact W.zret (v := 0) hx hb hr rfl (fun t ht hW => ⟨⟨0, (I1, F1), rfl, hw, by subst ht; exact hP⟩, hS.F ht⟩) hS.2.2 dJu_arrive_9
