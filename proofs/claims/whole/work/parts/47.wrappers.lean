/-! the law's small methods -/
theorem xt_tab {p : Program} {l : Launch} {e : Env} {s : State} {m : MethodId} {args : Array Value} {below : List Frame} {meth : Method} {c : Code} {s₁ : State} {y : MethodName} {S : Spec} {cc : ByteArray} {maxL : Nat} {ret : Option FieldType} {hh : List (Nat × Nat × Nat × Nat)} (B : BodyLoose p l y S cc maxL ret e s m args below meth c s₁) (h : (Cond.codeWith y cc maxL ret hh).before args s = true) :
    c.exceptionTable.toList = hh.map (fun q => (⟨q.1, q.2.1, q.2.2.1, q.2.2.2⟩ : ExceptionTableEntry)) := by
  obtain ⟨m9, meth9, c9, hn, h1, h2, -, -, h5, -⟩ := Cond.codeWith_spec h
  cases hn.symm.trans B.named
  cases h1.symm.trans B.method
  cases h2.symm.trans (Stand.of_body B).code
  rw [← h5, List.map_map]
  exact (List.map_id' _).symm
/-- the class's world and the law's own array -/
def lw (a : Nat → Nat) (cI cZ cQ cJ : ClassId) (I : SI) (F : SF) (g : Nat → Int64) : va_W := cw a cI cZ cQ I F ++ [(a 47, .inl (cJ, 1, .inr (.inl g)))]
theorem lw_47 {a : Nat → Nat} {cI cZ cQ cJ : ClassId} {I : SI} {F : SF} {g : Nat → Int64} : (lw a cI cZ cQ cJ I F g)[47]? = some (a 47, .inl (cJ, 1, .inr (.inl g))) := rfl
theorem lw_0 {a : Nat → Nat} {cI cZ cQ cJ : ClassId} {I : SI} {F : SF} {g : Nat → Int64} : (lw a cI cZ cQ cJ I F g)[0]? = some (a 0, .inr (7, [.ref (a 1), .ref (a 2), .ref (a 3)])) := rfl
theorem lD {a : Nat → Nat} {cI cZ cQ cJ : ClassId} {I : SI} {F : SF} {g : Nat → Int64} {sz : Nat} (hJ : xJ 48 a) : va_D (xA 48 a sz) (lw a cI cZ cQ cJ I F g) := xD hJ rfl
theorem lw_put {a : Nat → Nat} {cI cZ cQ cJ : ClassId} {I : SI} {F : SF} {g g2 : Nat → Int64} {D : va_G} {H : Heap} (h : va_P D vwCl ((lw a cI cZ cQ cJ I F g).set 47 (a 47, .inl (cJ, 1, .inr (.inl g2)))) H) : va_P D vwCl (lw a cI cZ cQ cJ I F g2) H := h
theorem lw_c {a : Nat → Nat} {cI cZ cQ cJ : ClassId} {I : SI} {F : SF} {g : Nat → Int64} {D : va_G} {H : Heap} (h : va_P D vwCl (lw a cI cZ cQ cJ I F g) H) : va_P D vwCl (cw a cI cZ cQ I F) H := fun k q hk => h k q (by
  have hl : k < (cw a cI cZ cQ I F).length := (List.getElem?_eq_some_iff.mp hk).1
  unfold lw
  rw [List.getElem?_append_left hl]
  exact hk)
theorem xJ_47 {a : Nat → Nat} (h : xJ 48 a) : xJ 47 a := fun i j hi hj e => h i j (by omega) (by omega) e
theorem xA_48 {a : Nat → Nat} {sz q : Nat} (h : xA 47 a sz q) : xA 48 a sz q := by
  rcases h with ⟨j, h1, h2⟩ | h
  · exact Or.inl ⟨j, by omega, h2⟩
  · exact Or.inr h
abbrev lK (cI cZ cQ cJ : ClassId) : List (ClassId × FieldType) := [(cI, .int), (cZ, .boolean), (cQ, .object "CodeJudge$Method"), (cJ, .long)]
/-- of the three exceptions none is of another's class -/
def xc (U : State) : Prop := ∀ i j, i ∈ [1, 2, 3] → j ∈ [1, 2, 3] → i ≠ j → va_Nc (xe i) (xe j) U
def lP (D : va_G) (a : Nat → Nat) (cI cZ cQ cJ : ClassId) (I : SI) (F : SF) (g : Nat → Int64) (sz : Nat) (U : State) : Prop := U.heap.size = sz ∧ va_P D vwCl (lw a cI cZ cQ cJ I F g) U.heap ∧ va_K D vwCl (lK cI cZ cQ cJ) U ∧ nw U ∧ xZ (xA 48 a sz) U U.heap ∧ xn U ∧ xc U
theorem lP_bl {D : va_G} {a : Nat → Nat} {cI cZ cQ cJ : ClassId} {I : SI} {F : SF} {g : Nat → Int64} {sz : Nat} {av : List Value} : FrameBlind (va_Pc av (lP D a cI cZ cQ cJ I F g sz)) := fun x U gg mk q => by
  obtain ⟨q0, q1, q2, q3, q4, q5, q6, q7⟩ := q
  exact ⟨q0, q1, q2, va_K.moved (u := U) (U := U.calling gg mk x) (Vm.Alike.refl U.vm) q3, nw_same (s := U) (U := U.calling gg mk x) rfl q4, xZ_moved (u := U) (U := U.calling gg mk x) (Vm.Alike.refl U.vm) q5, xn_same (s := U) (U := U.calling gg mk x) rfl q6, fun i j hi hj hn => va_Nc.moved (u := U) (U := U.calling gg mk x) (Vm.Alike.refl U.vm) (q7 i j hi hj hn)⟩
theorem lC_at {D : va_G} {a : Nat → Nat} {cI cZ cQ cJ : ClassId} {I : SI} {F : SF} {g : Nat → Int64} {av : List Value} {s : State} {H : Heap} {locs : List Loc} (hP : va_P D vwCl (lw a cI cZ cQ cJ I F g) H) (hK : va_K D vwCl (lK cI cZ cQ cJ) s) (hN : nw s) (hZ : xZ (xA 48 a s.heap.size) s s.heap) (hX : xn s) (hS : va_S (xA 48 a s.heap.size) s.heap H locs) : ∀ U : State, U.heap = H → s.WarmedH U.vm → va_Pc av (cY D a cI cZ cQ I F H.size) av.toArray U := fun U hU hW => by
  refine ⟨rfl, ⟨⟨by rw [hU], by rw [hU]; exact lw_c hP, (va_K.moved hW.alike hK).sub [0, 1, 2] rfl, nw_warm hW hN⟩, ?_⟩, xn_warm hW hX⟩
  rw [hU]
  refine xZ_less (xZ_moved hW.alike (xZ_kept hZ hS.2.1)) (fun q hq hA => ?_)
  rcases xA_48 hA with h1 | h1
  · exact Or.inl h1
  · omega
section XL
variable {p : Program} {l : Launch} {e : Env} {R : Room} {s : State} {m : MethodId} {args : Array Value} {below : List Frame} {meth : Method} {c : Code} {H : Heap} {locs : List Loc} {cells slots : Nat} {Q : State → Prop}
variable {pc : Nat} {ls : Array Slot} {rest st0 : List Value} {av : Array Value} {H0 : Heap} {D : va_G} {a : Nat → Nat} {cI cZ cQ cJ : ClassId} {mc ms : Nat} {I0 : SI} {F0' : SF} {g : Nat → Int64}
theorem xl_join {I : SI} {F : SF} {st t : State} {H1 : Heap} {L : List Loc} (hJ : xJ 48 a) (hP : va_P D vwCl (lw a cI cZ cQ cJ I0 F0' g) H) (hS : va_S (xA 48 a H0.size) H0 H locs) (h0 : st.heap = H) (h1 : H1 = t.heap) (hF : va_F (xA 47 a H.size) st t) (hL : ∀ z ∈ L, xA 47 a H.size z.base) (hb : va_P D vwCl (cw a cI cZ cQ I F) H1) : va_P D vwCl (lw a cI cZ cQ cJ I F g) H1 ∧ va_S (xA 48 a H0.size) H0 H1 (locs ++ L) := by
  obtain ⟨z1, z2⟩ := hF
  rw [h0] at z1 z2
  subst h1
  have hat := hP 47 _ lw_47
  have hlt : a 47 < H.size := hat.lt
  refine ⟨va_P.app hb (fun k q hk => ?_), Nat.le_trans hS.1 z1, fun q h1 h2 => ?_, fun q hq => ?_⟩
  · have hk0 : k = 0 := by
      have := (List.getElem?_eq_some_iff.mp hk).1
      simp at this
      exact this
    subst hk0
    cases hk
    refine hat.kept (z2 _ hlt (fun h => ?_))
    rcases h with ⟨j, h3, h4⟩ | h
    · have := hJ 47 j (by omega) (by omega) h4
      omega
    · exact absurd hlt (Nat.not_lt.mpr h)
  · rw [z2 q (Nat.lt_of_lt_of_le h1 hS.1) (fun h => h2 (xA_up (xA_48 h) hS.1))]
    exact hS.2.1 q h1 h2
  · rcases List.mem_append.mp hq with h | h
    · exact hS.2.2 q h
    · exact xA_up (xA_48 (hL q h)) hS.1
theorem xl_i {P1 : Int32 → SI → SF → Prop} {PX : Nat → SI → SF → Prop} (hr : xt_Run p l e R s m args below meth c H locs cells slots mc ms (F0 m pc ls st0) rest (va_Qi (fun r (u : SI × SF) => P1 r u.1 u.2) (fun u t => va_P D vwCl (cw a cI cZ cQ u.1 u.2) t.heap) (xA 47 a H.size) av) (cXC D a cI cZ cQ PX H.size) (xA 47 a H.size)) (hJ : xJ 48 a) (hP : va_P D vwCl (lw a cI cZ cQ cJ I0 F0' g) H) (hS : va_S (xA 48 a H0.size) H0 H locs)
    (kx : ∀ (k : Nat) (q : Addr) (I : SI) (F : SF) (H1 : Heap) (locs1 : List Loc), va_P D vwCl (lw a cI cZ cQ cJ I F g) H1 → PX k I F → va_S (xA 48 a H0.size) H0 H1 locs1 → xt_O k s q H1 → xt_W p l e R s m args below meth c H1 locs1 (cells + mc) (slots + ms) Q (F0 m pc ls rest) q)
    (kk : ∀ (r : Int32) (I : SI) (F : SF) (H1 : Heap) (locs1 : List Loc), va_P D vwCl (lw a cI cZ cQ cJ I F g) H1 → P1 r I F → va_S (xA 48 a H0.size) H0 H1 locs1 → W p l e R s m args below meth c H1 locs1 (cells + mc) (slots + ms) Q (F0 m (pc + 3) ls (.int r :: rest))) : W p l e R s m args below meth c H locs cells slots Q (F0 m pc ls st0) := by
  intro T hT X
  rcases hr T hT X with ⟨v, st₀, t, T', L, h0, X', hL, e1, ⟨⟨r, u, hv, hp, hb⟩, hF⟩, st⟩ | ⟨q, k, st₀, t, T', L, h0, X', hL, e1, hO, ⟨u, hp, hb, hF⟩, st⟩
  · cases hv
    obtain ⟨j1, j2⟩ := xl_join hJ hP hS h0 e1 hF hL (by rw [e1]; exact hb)
    obtain ⟨t2, a1, b1⟩ := kk r u.1 u.2 T'.heap (locs ++ L) j1 hp j2 T' rfl X'
    exact ⟨t2, st t2 a1, b1⟩
  · obtain ⟨j1, j2⟩ := xl_join hJ hP hS h0 e1 hF hL (by rw [e1]; exact hb)
    obtain ⟨t2, a1, b1⟩ := kx k q u.1 u.2 T'.heap (locs ++ L) j1 hp j2 (by rw [e1]; exact hO) T' rfl X'
    exact ⟨t2, st.trans a1, b1⟩
theorem xl_v {P1 : SI → SF → Prop} {PX : Nat → SI → SF → Prop} (hr : xt_Run p l e R s m args below meth c H locs cells slots mc ms (F0 m pc ls st0) rest (va_Qv (fun (u : SI × SF) => P1 u.1 u.2) (fun u t => va_P D vwCl (cw a cI cZ cQ u.1 u.2) t.heap) (xA 47 a H.size) av) (cXC D a cI cZ cQ PX H.size) (xA 47 a H.size)) (hJ : xJ 48 a) (hP : va_P D vwCl (lw a cI cZ cQ cJ I0 F0' g) H) (hS : va_S (xA 48 a H0.size) H0 H locs)
    (kx : ∀ (k : Nat) (q : Addr) (I : SI) (F : SF) (H1 : Heap) (locs1 : List Loc), va_P D vwCl (lw a cI cZ cQ cJ I F g) H1 → PX k I F → va_S (xA 48 a H0.size) H0 H1 locs1 → xt_O k s q H1 → xt_W p l e R s m args below meth c H1 locs1 (cells + mc) (slots + ms) Q (F0 m pc ls rest) q)
    (kk : ∀ (I : SI) (F : SF) (H1 : Heap) (locs1 : List Loc), va_P D vwCl (lw a cI cZ cQ cJ I F g) H1 → P1 I F → va_S (xA 48 a H0.size) H0 H1 locs1 → W p l e R s m args below meth c H1 locs1 (cells + mc) (slots + ms) Q (F0 m (pc + 3) ls rest)) : W p l e R s m args below meth c H locs cells slots Q (F0 m pc ls st0) := by
  intro T hT X
  rcases hr T hT X with ⟨v, st₀, t, T', L, h0, X', hL, e1, ⟨⟨u, hv, hp, hb⟩, hF⟩, st⟩ | ⟨q, k, st₀, t, T', L, h0, X', hL, e1, hO, ⟨u, hp, hb, hF⟩, st⟩
  · cases hv
    obtain ⟨j1, j2⟩ := xl_join hJ hP hS h0 e1 hF hL (by rw [e1]; exact hb)
    obtain ⟨t2, a1, b1⟩ := kk u.1 u.2 T'.heap (locs ++ L) j1 hp j2 T' rfl X'
    exact ⟨t2, st t2 a1, b1⟩
  · obtain ⟨j1, j2⟩ := xl_join hJ hP hS h0 e1 hF hL (by rw [e1]; exact hb)
    obtain ⟨t2, a1, b1⟩ := kx k q u.1 u.2 T'.heap (locs ++ L) j1 hp j2 (by rw [e1]; exact hO) T' rfl X'
    exact ⟨t2, st.trans a1, b1⟩
end XL
abbrev lQ (D : va_G) (a : Nat → Nat) (cI cZ cQ cJ : ClassId) (Post : Int32 → SI → SF → (Nat → Int64) → Prop) (sz : Nat) : Array Value → State → Outcome → State → Prop := va_Qi (fun r (u : SI × SF × (Nat → Int64)) => Post r u.1 u.2.1 u.2.2) (fun u t => va_P D vwCl (lw a cI cZ cQ cJ u.1 u.2.1 u.2.2) t.heap) (xA 48 a sz)

def wp_LW_add (p1 : Int32) (p2 : Int32) (p3 : Int32) (I : SI) (F : SF) (g : Nat → Int64) (Post : Int32 → SI → SF → (Nat → Int64) → Prop) : Prop := ∃ (P : Int32 → SI → SF → Prop) (PX : Nat → SI → SF → Prop), wp_CJ_add p1 p2 p3 I F P PX ∧ (∀ k I F, PX k I F → (k = 1 ∧ Post 1 I F g) ∨ (k = 2 ∧ Post 2 I F g) ∨ (k = 3 ∧ Post 3 I F g)) ∧ ∀ r I F, P r I F → Post 0 I F (vp_updL g (0 : Int32).toNatClampNeg r.toInt64)
set_option maxHeartbeats 4000000 in
set_option maxRecDepth 100000 in
theorem c_LW_add (l : Launch) (hlt : l.stackTraces = false) (D : va_G) (a : Nat → Nat) (cI cZ cQ cJ : ClassId) (hJ : xJ 48 a) (I : SI) (F : SF) (g : Nat → Int64) (p1 : Int32) (p2 : Int32) (p3 : Int32) (sz : Nat) (Post : Int32 → SI → SF → (Nat → Int64) → Prop) (hw : wp_LW_add p1 p2 p3 I F g Post) : Met l y_LW_add (Cond.codeWith y_LW_add b_LW_add 6 (some .int) [(0, 12, 15, 13), (0, 12, 19, 15), (0, 12, 23, 21)] :: TB) { frames := 8, cells := 2, slots := 12, locals := 141 } (va_Pc [.ref (a 0), .int p1, .int p2, .int p3, .ref (a 47)] (lP D a cI cZ cQ cJ I F g sz)) (lQ D a cI cZ cQ cJ Post sz) 2 12 (xA 48 a sz) := by
  refine va_MetW (cc := b_LW_add) (maxL := 6) (ret := (some .int)) (hh := [(0, 12, 15, 13), (0, 12, 19, 15), (0, 12, 23, 21)]) (by decide) rfl ?_
  intro p e s m args below meth c s₁ B hml hv
  obtain ⟨rfl, rfl, hP, hK, hN, hZ, hX, hC⟩ := hv
  have hx := B.exec
  have hb := B.bytes
  have hr := B.returns
  have hts : ∀ w ∈ TB, w.before _ s = true := fun w h => atoms_spec (ws := Cond.codeWith y_LW_add b_LW_add 6 (some .int) [(0, 12, 15, 13), (0, 12, 19, 15), (0, 12, 23, 21)] :: TB) B.pre w (List.mem_cons_of_mem _ h)
  have hTab := xt_tab B (atoms_spec (ws := Cond.codeWith y_LW_add b_LW_add 6 (some .int) [(0, 12, 15, 13), (0, 12, 19, 15), (0, 12, 23, 21)] :: TB) B.pre _ List.mem_cons_self)
  have hown : s.vm.findClass "CodeJudgeLaw" = some m.cls := findClass_of_methodNamed B.named
  have hlocks := B.notSynchronized
  have hS : va_S (xA 48 a s.heap.size) s.heap s.heap [] := va_S.rf
  have hl := lv_entry ([.ref (a 0), .int p1, .int p2, .int p3, .ref (a 47)]) (n := 6) (Nat.le_of_ble_eq_true rfl)
  rw [lg_entry_eq]
  generalize (lg_sl ([.ref (a 0), .int p1, .int p2, .int p3, .ref (a 47)]) ++ List.replicate (6 - (lg_sl ([.ref (a 0), .int p1, .int p2, .int p3, .ref (a 47)])).length) Slot.unset).toArray = ls at hl ⊢
  have hl : lv_has ls 6 [(0, .ref (a 0)), (1, .int p1), (2, .int p2), (3, .int p3), (4, .ref (a 47))] := hl
  obtain ⟨P, PX, hc, hx1, hw⟩ := hw
  refine lv_aload hx hb dLW_add_0 (lv_at hl 4 rfl) ?_
  refine lv_iconst (v := 0) hx hb dLW_add_2 (by decide) ?_
  refine lv_aload_n hx hb dLW_add_3 rfl (lv_at hl 0 rfl) ?_
  refine lv_iload_n hx hb dLW_add_4 rfl (lv_at hl 1 rfl) ?_
  refine lv_iload_n hx hb dLW_add_5 rfl (lv_at hl 2 rfl) ?_
  refine lv_iload_n hx hb dLW_add_6 rfl (lv_at hl 3 rfl) ?_
  refine xl_i (xt_runV (As := [.int p1, .int p2, .int p3]) (rest := [.int 0, .ref (a 47)]) ⟨hx, hb, hml, hown, hts⟩ (c_CJ_add l hlt D a cI cZ cQ (xJ_47 hJ) I F p1 p2 p3 s.heap.size P PX hc) (cwV 3 hts (tb_V (C := "CodeJudge") wc_CJ_add tw_2_99 tw_2_100 tw_2_101 tw_1_1) rfl rfl rfl (by decide +kernel) ⟨(Nat.le_of_ble_eq_true rfl), (Nat.le_of_ble_eq_true rfl)⟩) ⟨cY_bl, va_recv hK hP rfl lw_0, lC_at hP hK hN hZ hX hS⟩ rfl rfl hl.1 rfl (lv_room (Nat.le_of_ble_eq_true rfl)) dLW_add_7 ⟨(Nat.le_of_ble_eq_true rfl), (Nat.le_of_ble_eq_true rfl)⟩) hJ hP hS (fun k q I F H locs hP hp hS hO => ?_) (fun r I F H locs hP hp hS => ?_)
  · rcases hx1 k I F hp with ⟨rfl, hw⟩ | ⟨rfl, hw⟩ | ⟨rfl, hw⟩
    · refine xt_catch (own := "CodeJudgeLaw") (k := 1) hown [] ⟨0, 12, 15, 13⟩ [⟨0, 12, 19, 15⟩, ⟨0, 12, 23, 21⟩] hTab (fun z hz => nomatch hz) (by decide) (by decide) (hts _ tw_2_0) (va_Nw.use rfl (hX.1 1 (by decide))) hO ?_
      refine lv_astore (lv' := [(5, .ref q), (0, .ref (a 0)), (1, .int p1), (2, .int p2), (3, .int p3), (4, .ref (a 47))]) hx hb dLW_add_15 hl (by decide) rfl (fun ls hl => ?_)
      refine lv_iconst (v := 1) hx hb dLW_add_17 (by decide) ?_
      refine W.widen (k := 2) (n := 12) (Nat.le_of_ble_eq_true rfl) (Nat.le_of_ble_eq_true rfl) ?_
      exact W.iret (v := 1) hx hb hr (fun t ht hW => ⟨⟨1, (I, F, g), rfl, hw, by subst ht; exact hP⟩, hS.F ht⟩) hS.2.2 dLW_add_18
    · refine xt_catch (own := "CodeJudgeLaw") (k := 2) hown [⟨0, 12, 15, 13⟩] ⟨0, 12, 19, 15⟩ [⟨0, 12, 23, 21⟩] hTab (fun z hz => by
      simp only [List.mem_cons, List.not_mem_nil, or_false] at hz
      rcases hz with rfl
      · exact ⟨by decide, by decide, xe 1, hts _ tw_2_0, hC 2 1 (by decide) (by decide) (by decide)⟩) (by decide) (by decide) (hts _ tw_2_1) (va_Nw.use rfl (hX.1 2 (by decide))) hO ?_
      refine lv_astore (lv' := [(5, .ref q), (0, .ref (a 0)), (1, .int p1), (2, .int p2), (3, .int p3), (4, .ref (a 47))]) hx hb dLW_add_19 hl (by decide) rfl (fun ls hl => ?_)
      refine lv_iconst (v := 2) hx hb dLW_add_21 (by decide) ?_
      refine W.widen (k := 2) (n := 12) (Nat.le_of_ble_eq_true rfl) (Nat.le_of_ble_eq_true rfl) ?_
      exact W.iret (v := 2) hx hb hr (fun t ht hW => ⟨⟨2, (I, F, g), rfl, hw, by subst ht; exact hP⟩, hS.F ht⟩) hS.2.2 dLW_add_22
    · refine xt_catch (own := "CodeJudgeLaw") (k := 3) hown [⟨0, 12, 15, 13⟩, ⟨0, 12, 19, 15⟩] ⟨0, 12, 23, 21⟩ [] hTab (fun z hz => by
      simp only [List.mem_cons, List.not_mem_nil, or_false] at hz
      rcases hz with rfl | rfl
      · exact ⟨by decide, by decide, xe 1, hts _ tw_2_0, hC 3 1 (by decide) (by decide) (by decide)⟩
      · exact ⟨by decide, by decide, xe 2, hts _ tw_2_1, hC 3 2 (by decide) (by decide) (by decide)⟩) (by decide) (by decide) (hts _ tw_2_98) (va_Nw.use rfl (hX.1 3 (by decide))) hO ?_
      refine lv_astore (lv' := [(5, .ref q), (0, .ref (a 0)), (1, .int p1), (2, .int p2), (3, .int p3), (4, .ref (a 47))]) hx hb dLW_add_23 hl (by decide) rfl (fun ls hl => ?_)
      refine lv_iconst (v := 3) hx hb dLW_add_25 (by decide) ?_
      refine W.widen (k := 2) (n := 12) (Nat.le_of_ble_eq_true rfl) (Nat.le_of_ble_eq_true rfl) ?_
      exact W.iret (v := 3) hx hb hr (fun t ht hW => ⟨⟨3, (I, F, g), rfl, hw, by subst ht; exact hP⟩, hS.F ht⟩) hS.2.2 dLW_add_26
  · have hw := hw r I F hp
    refine lv_i2l (v := r.toInt64) hx hb dLW_add_10 rfl ?_
    refine va_last (x := r.toInt64) hx hb hK hP (lD hJ) hS 47 3 lw_47 rfl (by unfold vp_in; decide) dLW_add_11 (fun H locs hP _ hS => ?_)
    have hP := lw_put hP
    refine lv_goto (tgt := 27) hx hb dLW_add_12 (by decide) ?_
    refine lv_iconst (v := 0) hx hb dLW_add_27 (by decide) ?_
    refine W.widen (k := 2) (n := 12) (Nat.le_of_ble_eq_true rfl) (Nat.le_of_ble_eq_true rfl) ?_
    exact W.iret (v := 0) hx hb hr (fun t ht hW => ⟨⟨0, (I, F, (vp_updL g (0 : Int32).toNatClampNeg r.toInt64)), rfl, hw, by subst ht; exact hP⟩, hS.F ht⟩) hS.2.2 dLW_add_28
def wp_LW_cell (p1 : Int32) (p2 : Int32) (I : SI) (F : SF) (g : Nat → Int64) (Post : Int32 → SI → SF → (Nat → Int64) → Prop) : Prop := ∃ (P : Int32 → SI → SF → Prop) (PX : Nat → SI → SF → Prop), wp_CJ_cell p1 p2 I F P PX ∧ (∀ k I F, PX k I F → (k = 1 ∧ Post 1 I F g)) ∧ ∀ r I F, P r I F → Post 0 I F (vp_updL g (0 : Int32).toNatClampNeg r.toInt64)
set_option maxHeartbeats 4000000 in
set_option maxRecDepth 100000 in
theorem c_LW_cell (l : Launch) (hlt : l.stackTraces = false) (D : va_G) (a : Nat → Nat) (cI cZ cQ cJ : ClassId) (hJ : xJ 48 a) (I : SI) (F : SF) (g : Nat → Int64) (p1 : Int32) (p2 : Int32) (sz : Nat) (Post : Int32 → SI → SF → (Nat → Int64) → Prop) (hw : wp_LW_cell p1 p2 I F g Post) : Met l y_LW_cell (Cond.codeWith y_LW_cell b_LW_cell 5 (some .int) [(0, 10, 13, 13)] :: TB) { frames := 7, cells := 1, slots := 6, locals := 118 } (va_Pc [.ref (a 0), .int p1, .int p2, .ref (a 47)] (lP D a cI cZ cQ cJ I F g sz)) (lQ D a cI cZ cQ cJ Post sz) 1 6 (xA 48 a sz) := by
  refine va_MetW (cc := b_LW_cell) (maxL := 5) (ret := (some .int)) (hh := [(0, 10, 13, 13)]) (by decide) rfl ?_
  intro p e s m args below meth c s₁ B hml hv
  obtain ⟨rfl, rfl, hP, hK, hN, hZ, hX, hC⟩ := hv
  have hx := B.exec
  have hb := B.bytes
  have hr := B.returns
  have hts : ∀ w ∈ TB, w.before _ s = true := fun w h => atoms_spec (ws := Cond.codeWith y_LW_cell b_LW_cell 5 (some .int) [(0, 10, 13, 13)] :: TB) B.pre w (List.mem_cons_of_mem _ h)
  have hTab := xt_tab B (atoms_spec (ws := Cond.codeWith y_LW_cell b_LW_cell 5 (some .int) [(0, 10, 13, 13)] :: TB) B.pre _ List.mem_cons_self)
  have hown : s.vm.findClass "CodeJudgeLaw" = some m.cls := findClass_of_methodNamed B.named
  have hlocks := B.notSynchronized
  have hS : va_S (xA 48 a s.heap.size) s.heap s.heap [] := va_S.rf
  have hl := lv_entry ([.ref (a 0), .int p1, .int p2, .ref (a 47)]) (n := 5) (Nat.le_of_ble_eq_true rfl)
  rw [lg_entry_eq]
  generalize (lg_sl ([.ref (a 0), .int p1, .int p2, .ref (a 47)]) ++ List.replicate (5 - (lg_sl ([.ref (a 0), .int p1, .int p2, .ref (a 47)])).length) Slot.unset).toArray = ls at hl ⊢
  have hl : lv_has ls 5 [(0, .ref (a 0)), (1, .int p1), (2, .int p2), (3, .ref (a 47))] := hl
  obtain ⟨P, PX, hc, hx1, hw⟩ := hw
  refine lv_aload_n hx hb dLW_cell_0 rfl (lv_at hl 3 rfl) ?_
  refine lv_iconst (v := 0) hx hb dLW_cell_1 (by decide) ?_
  refine lv_aload_n hx hb dLW_cell_2 rfl (lv_at hl 0 rfl) ?_
  refine lv_iload_n hx hb dLW_cell_3 rfl (lv_at hl 1 rfl) ?_
  refine lv_iload_n hx hb dLW_cell_4 rfl (lv_at hl 2 rfl) ?_
  refine xl_i (xt_runV (As := [.int p1, .int p2]) (rest := [.int 0, .ref (a 47)]) ⟨hx, hb, hml, hown, hts⟩ (c_CJ_cell l hlt D a cI cZ cQ (xJ_47 hJ) I F p1 p2 s.heap.size P PX hc) (cwV 2 hts (tb_V (C := "CodeJudge") wc_CJ_cell tw_4_24 tw_4_25 tw_4_26 tw_1_1) rfl rfl rfl (by decide +kernel) ⟨(Nat.le_of_ble_eq_true rfl), (Nat.le_of_ble_eq_true rfl)⟩) ⟨cY_bl, va_recv hK hP rfl lw_0, lC_at hP hK hN hZ hX hS⟩ rfl rfl hl.1 rfl (lv_room (Nat.le_of_ble_eq_true rfl)) dLW_cell_5 ⟨(Nat.le_of_ble_eq_true rfl), (Nat.le_of_ble_eq_true rfl)⟩) hJ hP hS (fun k q I F H locs hP hp hS hO => ?_) (fun r I F H locs hP hp hS => ?_)
  · rcases hx1 k I F hp with ⟨rfl, hw⟩
    · refine xt_catch (own := "CodeJudgeLaw") (k := 1) hown [] ⟨0, 10, 13, 13⟩ [] hTab (fun z hz => nomatch hz) (by decide) (by decide) (hts _ tw_2_0) (va_Nw.use rfl (hX.1 1 (by decide))) hO ?_
      refine lv_astore (lv' := [(4, .ref q), (0, .ref (a 0)), (1, .int p1), (2, .int p2), (3, .ref (a 47))]) hx hb dLW_cell_13 hl (by decide) rfl (fun ls hl => ?_)
      refine lv_iconst (v := 1) hx hb dLW_cell_15 (by decide) ?_
      refine W.widen (k := 1) (n := 6) (Nat.le_of_ble_eq_true rfl) (Nat.le_of_ble_eq_true rfl) ?_
      exact W.iret (v := 1) hx hb hr (fun t ht hW => ⟨⟨1, (I, F, g), rfl, hw, by subst ht; exact hP⟩, hS.F ht⟩) hS.2.2 dLW_cell_16
  · have hw := hw r I F hp
    refine lv_i2l (v := r.toInt64) hx hb dLW_cell_8 rfl ?_
    refine va_last (x := r.toInt64) hx hb hK hP (lD hJ) hS 47 3 lw_47 rfl (by unfold vp_in; decide) dLW_cell_9 (fun H locs hP _ hS => ?_)
    have hP := lw_put hP
    refine lv_goto (tgt := 17) hx hb dLW_cell_10 (by decide) ?_
    refine lv_iconst (v := 0) hx hb dLW_cell_17 (by decide) ?_
    refine W.widen (k := 1) (n := 6) (Nat.le_of_ble_eq_true rfl) (Nat.le_of_ble_eq_true rfl) ?_
    exact W.iret (v := 0) hx hb hr (fun t ht hW => ⟨⟨0, (I, F, (vp_updL g (0 : Int32).toNatClampNeg r.toInt64)), rfl, hw, by subst ht; exact hP⟩, hS.F ht⟩) hS.2.2 dLW_cell_18
def wp_LW_count (p1 : Int32) (I : SI) (F : SF) (g : Nat → Int64) (Post : Int32 → SI → SF → (Nat → Int64) → Prop) : Prop := ∃ (P : Int32 → SI → SF → Prop) (PX : Nat → SI → SF → Prop), wp_CJ_count p1 I F P PX ∧ (∀ k I F, PX k I F → (k = 2 ∧ Post 1 I F g)) ∧ ∀ r I F, P r I F → Post 0 I F (vp_updL g (0 : Int32).toNatClampNeg r.toInt64)
set_option maxHeartbeats 4000000 in
set_option maxRecDepth 100000 in
theorem c_LW_count (l : Launch) (hlt : l.stackTraces = false) (D : va_G) (a : Nat → Nat) (cI cZ cQ cJ : ClassId) (hJ : xJ 48 a) (I : SI) (F : SF) (g : Nat → Int64) (p1 : Int32) (sz : Nat) (Post : Int32 → SI → SF → (Nat → Int64) → Prop) (hw : wp_LW_count p1 I F g Post) : Met l y_LW_count (Cond.codeWith y_LW_count b_LW_count 4 (some .int) [(0, 9, 12, 15)] :: TB) { frames := 7, cells := 1, slots := 6, locals := 160 } (va_Pc [.ref (a 0), .int p1, .ref (a 47)] (lP D a cI cZ cQ cJ I F g sz)) (lQ D a cI cZ cQ cJ Post sz) 1 6 (xA 48 a sz) := by
  refine va_MetW (cc := b_LW_count) (maxL := 4) (ret := (some .int)) (hh := [(0, 9, 12, 15)]) (by decide) rfl ?_
  intro p e s m args below meth c s₁ B hml hv
  obtain ⟨rfl, rfl, hP, hK, hN, hZ, hX, hC⟩ := hv
  have hx := B.exec
  have hb := B.bytes
  have hr := B.returns
  have hts : ∀ w ∈ TB, w.before _ s = true := fun w h => atoms_spec (ws := Cond.codeWith y_LW_count b_LW_count 4 (some .int) [(0, 9, 12, 15)] :: TB) B.pre w (List.mem_cons_of_mem _ h)
  have hTab := xt_tab B (atoms_spec (ws := Cond.codeWith y_LW_count b_LW_count 4 (some .int) [(0, 9, 12, 15)] :: TB) B.pre _ List.mem_cons_self)
  have hown : s.vm.findClass "CodeJudgeLaw" = some m.cls := findClass_of_methodNamed B.named
  have hlocks := B.notSynchronized
  have hS : va_S (xA 48 a s.heap.size) s.heap s.heap [] := va_S.rf
  have hl := lv_entry ([.ref (a 0), .int p1, .ref (a 47)]) (n := 4) (Nat.le_of_ble_eq_true rfl)
  rw [lg_entry_eq]
  generalize (lg_sl ([.ref (a 0), .int p1, .ref (a 47)]) ++ List.replicate (4 - (lg_sl ([.ref (a 0), .int p1, .ref (a 47)])).length) Slot.unset).toArray = ls at hl ⊢
  have hl : lv_has ls 4 [(0, .ref (a 0)), (1, .int p1), (2, .ref (a 47))] := hl
  obtain ⟨P, PX, hc, hx1, hw⟩ := hw
  refine lv_aload_n hx hb dLW_count_0 rfl (lv_at hl 2 rfl) ?_
  refine lv_iconst (v := 0) hx hb dLW_count_1 (by decide) ?_
  refine lv_aload_n hx hb dLW_count_2 rfl (lv_at hl 0 rfl) ?_
  refine lv_iload_n hx hb dLW_count_3 rfl (lv_at hl 1 rfl) ?_
  refine xl_i (xt_runV (As := [.int p1]) (rest := [.int 0, .ref (a 47)]) ⟨hx, hb, hml, hown, hts⟩ (c_CJ_count l hlt D a cI cZ cQ (xJ_47 hJ) I F p1 s.heap.size P PX hc) (cwV 1 hts (tb_V (C := "CodeJudge") wc_CJ_count tw_4_52 tw_4_53 tw_4_54 tw_1_1) rfl rfl rfl (by decide +kernel) ⟨(Nat.le_of_ble_eq_true rfl), (Nat.le_of_ble_eq_true rfl)⟩) ⟨cY_bl, va_recv hK hP rfl lw_0, lC_at hP hK hN hZ hX hS⟩ rfl rfl hl.1 rfl (lv_room (Nat.le_of_ble_eq_true rfl)) dLW_count_4 ⟨(Nat.le_of_ble_eq_true rfl), (Nat.le_of_ble_eq_true rfl)⟩) hJ hP hS (fun k q I F H locs hP hp hS hO => ?_) (fun r I F H locs hP hp hS => ?_)
  · rcases hx1 k I F hp with ⟨rfl, hw⟩
    · refine xt_catch (own := "CodeJudgeLaw") (k := 2) hown [] ⟨0, 9, 12, 15⟩ [] hTab (fun z hz => nomatch hz) (by decide) (by decide) (hts _ tw_2_1) (va_Nw.use rfl (hX.1 2 (by decide))) hO ?_
      refine lv_astore_n (lv' := [(3, .ref q), (0, .ref (a 0)), (1, .int p1), (2, .ref (a 47))]) hx hb dLW_count_12 rfl hl (by decide) rfl (fun ls hl => ?_)
      refine lv_iconst (v := 1) hx hb dLW_count_13 (by decide) ?_
      refine W.widen (k := 1) (n := 6) (Nat.le_of_ble_eq_true rfl) (Nat.le_of_ble_eq_true rfl) ?_
      exact W.iret (v := 1) hx hb hr (fun t ht hW => ⟨⟨1, (I, F, g), rfl, hw, by subst ht; exact hP⟩, hS.F ht⟩) hS.2.2 dLW_count_14
  · have hw := hw r I F hp
    refine lv_i2l (v := r.toInt64) hx hb dLW_count_7 rfl ?_
    refine va_last (x := r.toInt64) hx hb hK hP (lD hJ) hS 47 3 lw_47 rfl (by unfold vp_in; decide) dLW_count_8 (fun H locs hP _ hS => ?_)
    have hP := lw_put hP
    refine lv_goto (tgt := 15) hx hb dLW_count_9 (by decide) ?_
    refine lv_iconst (v := 0) hx hb dLW_count_15 (by decide) ?_
    refine W.widen (k := 1) (n := 6) (Nat.le_of_ble_eq_true rfl) (Nat.le_of_ble_eq_true rfl) ?_
    exact W.iret (v := 0) hx hb hr (fun t ht hW => ⟨⟨0, (I, F, (vp_updL g (0 : Int32).toNatClampNeg r.toInt64)), rfl, hw, by subst ht; exact hP⟩, hS.F ht⟩) hS.2.2 dLW_count_16
def wp_LW_drop (p1 : Int32) (I : SI) (F : SF) (g : Nat → Int64) (Post : Int32 → SI → SF → (Nat → Int64) → Prop) : Prop := ∃ (P : Int32 → SI → SF → Prop) (PX : Nat → SI → SF → Prop), wp_CJ_drop p1 I F P PX ∧ (∀ k I F, PX k I F → (k = 1 ∧ Post 1 I F g)) ∧ ∀ r I F, P r I F → Post 0 I F (vp_updL g (0 : Int32).toNatClampNeg r.toInt64)
set_option maxHeartbeats 4000000 in
set_option maxRecDepth 100000 in
theorem c_LW_drop (l : Launch) (hlt : l.stackTraces = false) (D : va_G) (a : Nat → Nat) (cI cZ cQ cJ : ClassId) (hJ : xJ 48 a) (I : SI) (F : SF) (g : Nat → Int64) (p1 : Int32) (sz : Nat) (Post : Int32 → SI → SF → (Nat → Int64) → Prop) (hw : wp_LW_drop p1 I F g Post) : Met l y_LW_drop (Cond.codeWith y_LW_drop b_LW_drop 4 (some .int) [(0, 9, 12, 13)] :: TB) { frames := 8, cells := 1, slots := 6, locals := 140 } (va_Pc [.ref (a 0), .int p1, .ref (a 47)] (lP D a cI cZ cQ cJ I F g sz)) (lQ D a cI cZ cQ cJ Post sz) 1 6 (xA 48 a sz) := by
  refine va_MetW (cc := b_LW_drop) (maxL := 4) (ret := (some .int)) (hh := [(0, 9, 12, 13)]) (by decide) rfl ?_
  intro p e s m args below meth c s₁ B hml hv
  obtain ⟨rfl, rfl, hP, hK, hN, hZ, hX, hC⟩ := hv
  have hx := B.exec
  have hb := B.bytes
  have hr := B.returns
  have hts : ∀ w ∈ TB, w.before _ s = true := fun w h => atoms_spec (ws := Cond.codeWith y_LW_drop b_LW_drop 4 (some .int) [(0, 9, 12, 13)] :: TB) B.pre w (List.mem_cons_of_mem _ h)
  have hTab := xt_tab B (atoms_spec (ws := Cond.codeWith y_LW_drop b_LW_drop 4 (some .int) [(0, 9, 12, 13)] :: TB) B.pre _ List.mem_cons_self)
  have hown : s.vm.findClass "CodeJudgeLaw" = some m.cls := findClass_of_methodNamed B.named
  have hlocks := B.notSynchronized
  have hS : va_S (xA 48 a s.heap.size) s.heap s.heap [] := va_S.rf
  have hl := lv_entry ([.ref (a 0), .int p1, .ref (a 47)]) (n := 4) (Nat.le_of_ble_eq_true rfl)
  rw [lg_entry_eq]
  generalize (lg_sl ([.ref (a 0), .int p1, .ref (a 47)]) ++ List.replicate (4 - (lg_sl ([.ref (a 0), .int p1, .ref (a 47)])).length) Slot.unset).toArray = ls at hl ⊢
  have hl : lv_has ls 4 [(0, .ref (a 0)), (1, .int p1), (2, .ref (a 47))] := hl
  obtain ⟨P, PX, hc, hx1, hw⟩ := hw
  refine lv_aload_n hx hb dLW_drop_0 rfl (lv_at hl 2 rfl) ?_
  refine lv_iconst (v := 0) hx hb dLW_drop_1 (by decide) ?_
  refine lv_aload_n hx hb dLW_drop_2 rfl (lv_at hl 0 rfl) ?_
  refine lv_iload_n hx hb dLW_drop_3 rfl (lv_at hl 1 rfl) ?_
  refine xl_i (xt_runV (As := [.int p1]) (rest := [.int 0, .ref (a 47)]) ⟨hx, hb, hml, hown, hts⟩ (c_CJ_drop l hlt D a cI cZ cQ (xJ_47 hJ) I F p1 s.heap.size P PX hc) (cwV 1 hts (tb_V (C := "CodeJudge") wc_CJ_drop tw_2_154 tw_2_155 tw_2_156 tw_1_1) rfl rfl rfl (by decide +kernel) ⟨(Nat.le_of_ble_eq_true rfl), (Nat.le_of_ble_eq_true rfl)⟩) ⟨cY_bl, va_recv hK hP rfl lw_0, lC_at hP hK hN hZ hX hS⟩ rfl rfl hl.1 rfl (lv_room (Nat.le_of_ble_eq_true rfl)) dLW_drop_4 ⟨(Nat.le_of_ble_eq_true rfl), (Nat.le_of_ble_eq_true rfl)⟩) hJ hP hS (fun k q I F H locs hP hp hS hO => ?_) (fun r I F H locs hP hp hS => ?_)
  · rcases hx1 k I F hp with ⟨rfl, hw⟩
    · refine xt_catch (own := "CodeJudgeLaw") (k := 1) hown [] ⟨0, 9, 12, 13⟩ [] hTab (fun z hz => nomatch hz) (by decide) (by decide) (hts _ tw_2_0) (va_Nw.use rfl (hX.1 1 (by decide))) hO ?_
      refine lv_astore_n (lv' := [(3, .ref q), (0, .ref (a 0)), (1, .int p1), (2, .ref (a 47))]) hx hb dLW_drop_12 rfl hl (by decide) rfl (fun ls hl => ?_)
      refine lv_iconst (v := 1) hx hb dLW_drop_13 (by decide) ?_
      refine W.widen (k := 1) (n := 6) (Nat.le_of_ble_eq_true rfl) (Nat.le_of_ble_eq_true rfl) ?_
      exact W.iret (v := 1) hx hb hr (fun t ht hW => ⟨⟨1, (I, F, g), rfl, hw, by subst ht; exact hP⟩, hS.F ht⟩) hS.2.2 dLW_drop_14
  · have hw := hw r I F hp
    refine lv_i2l (v := r.toInt64) hx hb dLW_drop_7 rfl ?_
    refine va_last (x := r.toInt64) hx hb hK hP (lD hJ) hS 47 3 lw_47 rfl (by unfold vp_in; decide) dLW_drop_8 (fun H locs hP _ hS => ?_)
    have hP := lw_put hP
    refine lv_goto (tgt := 15) hx hb dLW_drop_9 (by decide) ?_
    refine lv_iconst (v := 0) hx hb dLW_drop_15 (by decide) ?_
    refine W.widen (k := 1) (n := 6) (Nat.le_of_ble_eq_true rfl) (Nat.le_of_ble_eq_true rfl) ?_
    exact W.iret (v := 0) hx hb hr (fun t ht hW => ⟨⟨0, (I, F, (vp_updL g (0 : Int32).toNatClampNeg r.toInt64)), rfl, hw, by subst ht; exact hP⟩, hS.F ht⟩) hS.2.2 dLW_drop_16
def wp_LW_good (p1 : Int32) (I : SI) (F : SF) (g : Nat → Int64) (Post : Int32 → SI → SF → (Nat → Int64) → Prop) : Prop := ∃ (P : Int32 → SI → SF → Prop) (PX : Nat → SI → SF → Prop), wp_CJ_good p1 I F P PX ∧ (∀ k I F, PX k I F → (k = 1 ∧ Post 1 I F g)) ∧ ∀ r I F, P r I F → (r = 0 → Post 0 I F (vp_updL g (0 : Int32).toNatClampNeg 0)) ∧ (¬ r = 0 → Post 0 I F (vp_updL g (0 : Int32).toNatClampNeg 1))
set_option maxHeartbeats 4000000 in
set_option maxRecDepth 100000 in
theorem c_LW_good (l : Launch) (hlt : l.stackTraces = false) (D : va_G) (a : Nat → Nat) (cI cZ cQ cJ : ClassId) (hJ : xJ 48 a) (I : SI) (F : SF) (g : Nat → Int64) (p1 : Int32) (sz : Nat) (Post : Int32 → SI → SF → (Nat → Int64) → Prop) (hw : wp_LW_good p1 I F g Post) : Met l y_LW_good (Cond.codeWith y_LW_good b_LW_good 4 (some .int) [(0, 16, 19, 13)] :: TB) { frames := 8, cells := 1, slots := 6, locals := 138 } (va_Pc [.ref (a 0), .int p1, .ref (a 47)] (lP D a cI cZ cQ cJ I F g sz)) (lQ D a cI cZ cQ cJ Post sz) 1 6 (xA 48 a sz) := by
  refine va_MetW (cc := b_LW_good) (maxL := 4) (ret := (some .int)) (hh := [(0, 16, 19, 13)]) (by decide) rfl ?_
  intro p e s m args below meth c s₁ B hml hv
  obtain ⟨rfl, rfl, hP, hK, hN, hZ, hX, hC⟩ := hv
  have hx := B.exec
  have hb := B.bytes
  have hr := B.returns
  have hts : ∀ w ∈ TB, w.before _ s = true := fun w h => atoms_spec (ws := Cond.codeWith y_LW_good b_LW_good 4 (some .int) [(0, 16, 19, 13)] :: TB) B.pre w (List.mem_cons_of_mem _ h)
  have hTab := xt_tab B (atoms_spec (ws := Cond.codeWith y_LW_good b_LW_good 4 (some .int) [(0, 16, 19, 13)] :: TB) B.pre _ List.mem_cons_self)
  have hown : s.vm.findClass "CodeJudgeLaw" = some m.cls := findClass_of_methodNamed B.named
  have hlocks := B.notSynchronized
  have hS : va_S (xA 48 a s.heap.size) s.heap s.heap [] := va_S.rf
  have hl := lv_entry ([.ref (a 0), .int p1, .ref (a 47)]) (n := 4) (Nat.le_of_ble_eq_true rfl)
  rw [lg_entry_eq]
  generalize (lg_sl ([.ref (a 0), .int p1, .ref (a 47)]) ++ List.replicate (4 - (lg_sl ([.ref (a 0), .int p1, .ref (a 47)])).length) Slot.unset).toArray = ls at hl ⊢
  have hl : lv_has ls 4 [(0, .ref (a 0)), (1, .int p1), (2, .ref (a 47))] := hl
  obtain ⟨P, PX, hc, hx1, hw⟩ := hw
  refine lv_aload_n hx hb dLW_good_0 rfl (lv_at hl 2 rfl) ?_
  refine lv_iconst (v := 0) hx hb dLW_good_1 (by decide) ?_
  refine lv_aload_n hx hb dLW_good_2 rfl (lv_at hl 0 rfl) ?_
  refine lv_iload_n hx hb dLW_good_3 rfl (lv_at hl 1 rfl) ?_
  refine xl_i (xt_runV (As := [.int p1]) (rest := [.int 0, .ref (a 47)]) ⟨hx, hb, hml, hown, hts⟩ (c_CJ_good l hlt D a cI cZ cQ (xJ_47 hJ) I F p1 s.heap.size P PX hc) (cwV 1 hts (tb_V (C := "CodeJudge") wc_CJ_good tw_2_165 tw_2_166 tw_2_167 tw_1_1) rfl rfl rfl (by decide +kernel) ⟨(Nat.le_of_ble_eq_true rfl), (Nat.le_of_ble_eq_true rfl)⟩) ⟨cY_bl, va_recv hK hP rfl lw_0, lC_at hP hK hN hZ hX hS⟩ rfl rfl hl.1 rfl (lv_room (Nat.le_of_ble_eq_true rfl)) dLW_good_4 ⟨(Nat.le_of_ble_eq_true rfl), (Nat.le_of_ble_eq_true rfl)⟩) hJ hP hS (fun k q I F H locs hP hp hS hO => ?_) (fun r I F H locs hP hp hS => ?_)
  · rcases hx1 k I F hp with ⟨rfl, hw⟩
    · refine xt_catch (own := "CodeJudgeLaw") (k := 1) hown [] ⟨0, 16, 19, 13⟩ [] hTab (fun z hz => nomatch hz) (by decide) (by decide) (hts _ tw_2_0) (va_Nw.use rfl (hX.1 1 (by decide))) hO ?_
      refine lv_astore_n (lv' := [(3, .ref q), (0, .ref (a 0)), (1, .int p1), (2, .ref (a 47))]) hx hb dLW_good_19 rfl hl (by decide) rfl (fun ls hl => ?_)
      refine lv_iconst (v := 1) hx hb dLW_good_20 (by decide) ?_
      refine W.widen (k := 1) (n := 6) (Nat.le_of_ble_eq_true rfl) (Nat.le_of_ble_eq_true rfl) ?_
      exact W.iret (v := 1) hx hb hr (fun t ht hW => ⟨⟨1, (I, F, g), rfl, hw, by subst ht; exact hP⟩, hS.F ht⟩) hS.2.2 dLW_good_21
  · have hw := hw r I F hp
    refine lv_if_eq (tgt := 14) hx hb dLW_good_7 (by decide) (fun h => ?_) (fun h => ?_)
    · have hw := hw.1 h
      refine lv_lconst (v := 0) hx hb dLW_good_14 rfl ?_
      refine va_last (x := 0) hx hb hK hP (lD hJ) hS 47 3 lw_47 rfl (by unfold vp_in; decide) dLW_good_15 (fun H locs hP _ hS => ?_)
      have hP := lw_put hP
      refine lv_goto (tgt := 22) hx hb dLW_good_16 (by decide) ?_
      refine lv_iconst (v := 0) hx hb dLW_good_22 (by decide) ?_
      refine W.widen (k := 1) (n := 6) (Nat.le_of_ble_eq_true rfl) (Nat.le_of_ble_eq_true rfl) ?_
      exact W.iret (v := 0) hx hb hr (fun t ht hW => ⟨⟨0, (I, F, (vp_updL g (0 : Int32).toNatClampNeg 0)), rfl, hw, by subst ht; exact hP⟩, hS.F ht⟩) hS.2.2 dLW_good_23
    · have hw := hw.2 h
      refine lv_lconst (v := 1) hx hb dLW_good_10 rfl ?_
      refine lv_goto (tgt := 15) hx hb dLW_good_11 (by decide) ?_
      refine va_last (x := 1) hx hb hK hP (lD hJ) hS 47 3 lw_47 rfl (by unfold vp_in; decide) dLW_good_15 (fun H locs hP _ hS => ?_)
      have hP := lw_put hP
      refine lv_goto (tgt := 22) hx hb dLW_good_16 (by decide) ?_
      refine lv_iconst (v := 0) hx hb dLW_good_22 (by decide) ?_
      refine W.widen (k := 1) (n := 6) (Nat.le_of_ble_eq_true rfl) (Nat.le_of_ble_eq_true rfl) ?_
      exact W.iret (v := 0) hx hb hr (fun t ht hW => ⟨⟨0, (I, F, (vp_updL g (0 : Int32).toNatClampNeg 1)), rfl, hw, by subst ht; exact hP⟩, hS.F ht⟩) hS.2.2 dLW_good_23
def wp_LW_height (p1 : Int32) (p2 : Int32) (I : SI) (F : SF) (g : Nat → Int64) (Post : Int32 → SI → SF → (Nat → Int64) → Prop) : Prop := ∃ (P : Int32 → SI → SF → Prop) (PX : Nat → SI → SF → Prop), wp_CJ_height p1 p2 I F P PX ∧ (∀ k I F, PX k I F → (k = 1 ∧ Post 1 I F g) ∨ (k = 3 ∧ Post 2 I F g)) ∧ ∀ r I F, P r I F → Post 0 I F (vp_updL g (0 : Int32).toNatClampNeg r.toInt64)
set_option maxHeartbeats 4000000 in
set_option maxRecDepth 100000 in
theorem c_LW_height (l : Launch) (hlt : l.stackTraces = false) (D : va_G) (a : Nat → Nat) (cI cZ cQ cJ : ClassId) (hJ : xJ 48 a) (I : SI) (F : SF) (g : Nat → Int64) (p1 : Int32) (p2 : Int32) (sz : Nat) (Post : Int32 → SI → SF → (Nat → Int64) → Prop) (hw : wp_LW_height p1 p2 I F g Post) : Met l y_LW_height (Cond.codeWith y_LW_height b_LW_height 5 (some .int) [(0, 10, 13, 13), (0, 10, 17, 21)] :: TB) { frames := 9, cells := 3, slots := 18, locals := 163 } (va_Pc [.ref (a 0), .int p1, .int p2, .ref (a 47)] (lP D a cI cZ cQ cJ I F g sz)) (lQ D a cI cZ cQ cJ Post sz) 3 18 (xA 48 a sz) := by
  refine va_MetW (cc := b_LW_height) (maxL := 5) (ret := (some .int)) (hh := [(0, 10, 13, 13), (0, 10, 17, 21)]) (by decide) rfl ?_
  intro p e s m args below meth c s₁ B hml hv
  obtain ⟨rfl, rfl, hP, hK, hN, hZ, hX, hC⟩ := hv
  have hx := B.exec
  have hb := B.bytes
  have hr := B.returns
  have hts : ∀ w ∈ TB, w.before _ s = true := fun w h => atoms_spec (ws := Cond.codeWith y_LW_height b_LW_height 5 (some .int) [(0, 10, 13, 13), (0, 10, 17, 21)] :: TB) B.pre w (List.mem_cons_of_mem _ h)
  have hTab := xt_tab B (atoms_spec (ws := Cond.codeWith y_LW_height b_LW_height 5 (some .int) [(0, 10, 13, 13), (0, 10, 17, 21)] :: TB) B.pre _ List.mem_cons_self)
  have hown : s.vm.findClass "CodeJudgeLaw" = some m.cls := findClass_of_methodNamed B.named
  have hlocks := B.notSynchronized
  have hS : va_S (xA 48 a s.heap.size) s.heap s.heap [] := va_S.rf
  have hl := lv_entry ([.ref (a 0), .int p1, .int p2, .ref (a 47)]) (n := 5) (Nat.le_of_ble_eq_true rfl)
  rw [lg_entry_eq]
  generalize (lg_sl ([.ref (a 0), .int p1, .int p2, .ref (a 47)]) ++ List.replicate (5 - (lg_sl ([.ref (a 0), .int p1, .int p2, .ref (a 47)])).length) Slot.unset).toArray = ls at hl ⊢
  have hl : lv_has ls 5 [(0, .ref (a 0)), (1, .int p1), (2, .int p2), (3, .ref (a 47))] := hl
  obtain ⟨P, PX, hc, hx1, hw⟩ := hw
  refine lv_aload_n hx hb dLW_height_0 rfl (lv_at hl 3 rfl) ?_
  refine lv_iconst (v := 0) hx hb dLW_height_1 (by decide) ?_
  refine lv_aload_n hx hb dLW_height_2 rfl (lv_at hl 0 rfl) ?_
  refine lv_iload_n hx hb dLW_height_3 rfl (lv_at hl 1 rfl) ?_
  refine lv_iload_n hx hb dLW_height_4 rfl (lv_at hl 2 rfl) ?_
  refine xl_i (xt_runV (As := [.int p1, .int p2]) (rest := [.int 0, .ref (a 47)]) ⟨hx, hb, hml, hown, hts⟩ (c_CJ_height l hlt D a cI cZ cQ (xJ_47 hJ) I F p1 p2 s.heap.size P PX hc) (cwV 2 hts (tb_V (C := "CodeJudge") wc_CJ_height tw_3_13 tw_3_14 tw_3_15 tw_1_1) rfl rfl rfl (by decide +kernel) ⟨(Nat.le_of_ble_eq_true rfl), (Nat.le_of_ble_eq_true rfl)⟩) ⟨cY_bl, va_recv hK hP rfl lw_0, lC_at hP hK hN hZ hX hS⟩ rfl rfl hl.1 rfl (lv_room (Nat.le_of_ble_eq_true rfl)) dLW_height_5 ⟨(Nat.le_of_ble_eq_true rfl), (Nat.le_of_ble_eq_true rfl)⟩) hJ hP hS (fun k q I F H locs hP hp hS hO => ?_) (fun r I F H locs hP hp hS => ?_)
  · rcases hx1 k I F hp with ⟨rfl, hw⟩ | ⟨rfl, hw⟩
    · refine xt_catch (own := "CodeJudgeLaw") (k := 1) hown [] ⟨0, 10, 13, 13⟩ [⟨0, 10, 17, 21⟩] hTab (fun z hz => nomatch hz) (by decide) (by decide) (hts _ tw_2_0) (va_Nw.use rfl (hX.1 1 (by decide))) hO ?_
      refine lv_astore (lv' := [(4, .ref q), (0, .ref (a 0)), (1, .int p1), (2, .int p2), (3, .ref (a 47))]) hx hb dLW_height_13 hl (by decide) rfl (fun ls hl => ?_)
      refine lv_iconst (v := 1) hx hb dLW_height_15 (by decide) ?_
      refine W.widen (k := 3) (n := 18) (Nat.le_of_ble_eq_true rfl) (Nat.le_of_ble_eq_true rfl) ?_
      exact W.iret (v := 1) hx hb hr (fun t ht hW => ⟨⟨1, (I, F, g), rfl, hw, by subst ht; exact hP⟩, hS.F ht⟩) hS.2.2 dLW_height_16
    · refine xt_catch (own := "CodeJudgeLaw") (k := 3) hown [⟨0, 10, 13, 13⟩] ⟨0, 10, 17, 21⟩ [] hTab (fun z hz => by
      simp only [List.mem_cons, List.not_mem_nil, or_false] at hz
      rcases hz with rfl
      · exact ⟨by decide, by decide, xe 1, hts _ tw_2_0, hC 3 1 (by decide) (by decide) (by decide)⟩) (by decide) (by decide) (hts _ tw_2_98) (va_Nw.use rfl (hX.1 3 (by decide))) hO ?_
      refine lv_astore (lv' := [(4, .ref q), (0, .ref (a 0)), (1, .int p1), (2, .int p2), (3, .ref (a 47))]) hx hb dLW_height_17 hl (by decide) rfl (fun ls hl => ?_)
      refine lv_iconst (v := 2) hx hb dLW_height_19 (by decide) ?_
      refine W.widen (k := 3) (n := 18) (Nat.le_of_ble_eq_true rfl) (Nat.le_of_ble_eq_true rfl) ?_
      exact W.iret (v := 2) hx hb hr (fun t ht hW => ⟨⟨2, (I, F, g), rfl, hw, by subst ht; exact hP⟩, hS.F ht⟩) hS.2.2 dLW_height_20
  · have hw := hw r I F hp
    refine lv_i2l (v := r.toInt64) hx hb dLW_height_8 rfl ?_
    refine va_last (x := r.toInt64) hx hb hK hP (lD hJ) hS 47 3 lw_47 rfl (by unfold vp_in; decide) dLW_height_9 (fun H locs hP _ hS => ?_)
    have hP := lw_put hP
    refine lv_goto (tgt := 21) hx hb dLW_height_10 (by decide) ?_
    refine lv_iconst (v := 0) hx hb dLW_height_21 (by decide) ?_
    refine W.widen (k := 3) (n := 18) (Nat.le_of_ble_eq_true rfl) (Nat.le_of_ble_eq_true rfl) ?_
    exact W.iret (v := 0) hx hb hr (fun t ht hW => ⟨⟨0, (I, F, (vp_updL g (0 : Int32).toNatClampNeg r.toInt64)), rfl, hw, by subst ht; exact hP⟩, hS.F ht⟩) hS.2.2 dLW_height_22
def wp_LW_method (p1 : Int32) (p2 : Int32) (p3 : Int32) (p4 : Int32) (p5 : Int32) (p6 : Int32) (I : SI) (F : SF) (g : Nat → Int64) (Post : Int32 → SI → SF → (Nat → Int64) → Prop) : Prop := ∃ (P : Int32 → SI → SF → Prop) (PX : Nat → SI → SF → Prop), wp_CJ_method p1 p2 p3 p4 p5 p6 I F P PX ∧ (∀ k I F, PX k I F → (k = 1 ∧ Post 1 I F g) ∨ (k = 2 ∧ Post 2 I F g)) ∧ ∀ r I F, P r I F → (r = 0 → Post 0 I F (vp_updL g (0 : Int32).toNatClampNeg 0)) ∧ (¬ r = 0 → Post 0 I F (vp_updL g (0 : Int32).toNatClampNeg 1))
set_option maxHeartbeats 4000000 in
set_option maxRecDepth 100000 in
theorem c_LW_method (l : Launch) (hlt : l.stackTraces = false) (D : va_G) (a : Nat → Nat) (cI cZ cQ cJ : ClassId) (hJ : xJ 48 a) (I : SI) (F : SF) (g : Nat → Int64) (p1 : Int32) (p2 : Int32) (p3 : Int32) (p4 : Int32) (p5 : Int32) (p6 : Int32) (sz : Nat) (Post : Int32 → SI → SF → (Nat → Int64) → Prop) (hw : wp_LW_method p1 p2 p3 p4 p5 p6 I F g Post) : Met l y_LW_method (Cond.codeWith y_LW_method b_LW_method 9 (some .int) [(0, 25, 28, 13), (0, 25, 32, 15)] :: TB) { frames := 7, cells := 1, slots := 6, locals := 124 } (va_Pc [.ref (a 0), .int p1, .int p2, .int p3, .int p4, .int p5, .int p6, .ref (a 47)] (lP D a cI cZ cQ cJ I F g sz)) (lQ D a cI cZ cQ cJ Post sz) 1 6 (xA 48 a sz) := by
  refine va_MetW (cc := b_LW_method) (maxL := 9) (ret := (some .int)) (hh := [(0, 25, 28, 13), (0, 25, 32, 15)]) (by decide) rfl ?_
  intro p e s m args below meth c s₁ B hml hv
  obtain ⟨rfl, rfl, hP, hK, hN, hZ, hX, hC⟩ := hv
  have hx := B.exec
  have hb := B.bytes
  have hr := B.returns
  have hts : ∀ w ∈ TB, w.before _ s = true := fun w h => atoms_spec (ws := Cond.codeWith y_LW_method b_LW_method 9 (some .int) [(0, 25, 28, 13), (0, 25, 32, 15)] :: TB) B.pre w (List.mem_cons_of_mem _ h)
  have hTab := xt_tab B (atoms_spec (ws := Cond.codeWith y_LW_method b_LW_method 9 (some .int) [(0, 25, 28, 13), (0, 25, 32, 15)] :: TB) B.pre _ List.mem_cons_self)
  have hown : s.vm.findClass "CodeJudgeLaw" = some m.cls := findClass_of_methodNamed B.named
  have hlocks := B.notSynchronized
  have hS : va_S (xA 48 a s.heap.size) s.heap s.heap [] := va_S.rf
  have hl := lv_entry ([.ref (a 0), .int p1, .int p2, .int p3, .int p4, .int p5, .int p6, .ref (a 47)]) (n := 9) (Nat.le_of_ble_eq_true rfl)
  rw [lg_entry_eq]
  generalize (lg_sl ([.ref (a 0), .int p1, .int p2, .int p3, .int p4, .int p5, .int p6, .ref (a 47)]) ++ List.replicate (9 - (lg_sl ([.ref (a 0), .int p1, .int p2, .int p3, .int p4, .int p5, .int p6, .ref (a 47)])).length) Slot.unset).toArray = ls at hl ⊢
  have hl : lv_has ls 9 [(0, .ref (a 0)), (1, .int p1), (2, .int p2), (3, .int p3), (4, .int p4), (5, .int p5), (6, .int p6), (7, .ref (a 47))] := hl
  obtain ⟨P, PX, hc, hx1, hw⟩ := hw
  refine lv_aload hx hb dLW_method_0 (lv_at hl 7 rfl) ?_
  refine lv_iconst (v := 0) hx hb dLW_method_2 (by decide) ?_
  refine lv_aload_n hx hb dLW_method_3 rfl (lv_at hl 0 rfl) ?_
  refine lv_iload_n hx hb dLW_method_4 rfl (lv_at hl 1 rfl) ?_
  refine lv_iload_n hx hb dLW_method_5 rfl (lv_at hl 2 rfl) ?_
  refine lv_iload_n hx hb dLW_method_6 rfl (lv_at hl 3 rfl) ?_
  refine lv_iload hx hb dLW_method_7 (lv_at hl 4 rfl) ?_
  refine lv_iload hx hb dLW_method_9 (lv_at hl 5 rfl) ?_
  refine lv_iload hx hb dLW_method_11 (lv_at hl 6 rfl) ?_
  refine xl_i (xt_runV (As := [.int p1, .int p2, .int p3, .int p4, .int p5, .int p6]) (rest := [.int 0, .ref (a 47)]) ⟨hx, hb, hml, hown, hts⟩ (c_CJ_method l hlt D a cI cZ cQ (xJ_47 hJ) I F p1 p2 p3 p4 p5 p6 s.heap.size P PX hc) (cwV 6 hts (tb_V (C := "CodeJudge") wc_CJ_method tw_2_2 tw_2_3 tw_2_4 tw_1_1) rfl rfl rfl (by decide +kernel) ⟨(Nat.le_of_ble_eq_true rfl), (Nat.le_of_ble_eq_true rfl)⟩) ⟨cY_bl, va_recv hK hP rfl lw_0, lC_at hP hK hN hZ hX hS⟩ rfl rfl hl.1 rfl (lv_room (Nat.le_of_ble_eq_true rfl)) dLW_method_13 ⟨(Nat.le_of_ble_eq_true rfl), (Nat.le_of_ble_eq_true rfl)⟩) hJ hP hS (fun k q I F H locs hP hp hS hO => ?_) (fun r I F H locs hP hp hS => ?_)
  · rcases hx1 k I F hp with ⟨rfl, hw⟩ | ⟨rfl, hw⟩
    · refine xt_catch (own := "CodeJudgeLaw") (k := 1) hown [] ⟨0, 25, 28, 13⟩ [⟨0, 25, 32, 15⟩] hTab (fun z hz => nomatch hz) (by decide) (by decide) (hts _ tw_2_0) (va_Nw.use rfl (hX.1 1 (by decide))) hO ?_
      refine lv_astore (lv' := [(8, .ref q), (0, .ref (a 0)), (1, .int p1), (2, .int p2), (3, .int p3), (4, .int p4), (5, .int p5), (6, .int p6), (7, .ref (a 47))]) hx hb dLW_method_28 hl (by decide) rfl (fun ls hl => ?_)
      refine lv_iconst (v := 1) hx hb dLW_method_30 (by decide) ?_
      refine W.widen (k := 1) (n := 6) (Nat.le_of_ble_eq_true rfl) (Nat.le_of_ble_eq_true rfl) ?_
      exact W.iret (v := 1) hx hb hr (fun t ht hW => ⟨⟨1, (I, F, g), rfl, hw, by subst ht; exact hP⟩, hS.F ht⟩) hS.2.2 dLW_method_31
    · refine xt_catch (own := "CodeJudgeLaw") (k := 2) hown [⟨0, 25, 28, 13⟩] ⟨0, 25, 32, 15⟩ [] hTab (fun z hz => by
      simp only [List.mem_cons, List.not_mem_nil, or_false] at hz
      rcases hz with rfl
      · exact ⟨by decide, by decide, xe 1, hts _ tw_2_0, hC 2 1 (by decide) (by decide) (by decide)⟩) (by decide) (by decide) (hts _ tw_2_1) (va_Nw.use rfl (hX.1 2 (by decide))) hO ?_
      refine lv_astore (lv' := [(8, .ref q), (0, .ref (a 0)), (1, .int p1), (2, .int p2), (3, .int p3), (4, .int p4), (5, .int p5), (6, .int p6), (7, .ref (a 47))]) hx hb dLW_method_32 hl (by decide) rfl (fun ls hl => ?_)
      refine lv_iconst (v := 2) hx hb dLW_method_34 (by decide) ?_
      refine W.widen (k := 1) (n := 6) (Nat.le_of_ble_eq_true rfl) (Nat.le_of_ble_eq_true rfl) ?_
      exact W.iret (v := 2) hx hb hr (fun t ht hW => ⟨⟨2, (I, F, g), rfl, hw, by subst ht; exact hP⟩, hS.F ht⟩) hS.2.2 dLW_method_35
  · have hw := hw r I F hp
    refine lv_if_eq (tgt := 23) hx hb dLW_method_16 (by decide) (fun h => ?_) (fun h => ?_)
    · have hw := hw.1 h
      refine lv_lconst (v := 0) hx hb dLW_method_23 rfl ?_
      refine va_last (x := 0) hx hb hK hP (lD hJ) hS 47 3 lw_47 rfl (by unfold vp_in; decide) dLW_method_24 (fun H locs hP _ hS => ?_)
      have hP := lw_put hP
      refine lv_goto (tgt := 36) hx hb dLW_method_25 (by decide) ?_
      refine lv_iconst (v := 0) hx hb dLW_method_36 (by decide) ?_
      refine W.widen (k := 1) (n := 6) (Nat.le_of_ble_eq_true rfl) (Nat.le_of_ble_eq_true rfl) ?_
      exact W.iret (v := 0) hx hb hr (fun t ht hW => ⟨⟨0, (I, F, (vp_updL g (0 : Int32).toNatClampNeg 0)), rfl, hw, by subst ht; exact hP⟩, hS.F ht⟩) hS.2.2 dLW_method_37
    · have hw := hw.2 h
      refine lv_lconst (v := 1) hx hb dLW_method_19 rfl ?_
      refine lv_goto (tgt := 24) hx hb dLW_method_20 (by decide) ?_
      refine va_last (x := 1) hx hb hK hP (lD hJ) hS 47 3 lw_47 rfl (by unfold vp_in; decide) dLW_method_24 (fun H locs hP _ hS => ?_)
      have hP := lw_put hP
      refine lv_goto (tgt := 36) hx hb dLW_method_25 (by decide) ?_
      refine lv_iconst (v := 0) hx hb dLW_method_36 (by decide) ?_
      refine W.widen (k := 1) (n := 6) (Nat.le_of_ble_eq_true rfl) (Nat.le_of_ble_eq_true rfl) ?_
      exact W.iret (v := 0) hx hb hr (fun t ht hW => ⟨⟨0, (I, F, (vp_updL g (0 : Int32).toNatClampNeg 1)), rfl, hw, by subst ht; exact hP⟩, hS.F ht⟩) hS.2.2 dLW_method_37
def wp_LW_output (p1 : Int32) (I : SI) (F : SF) (g : Nat → Int64) (Post : Int32 → SI → SF → (Nat → Int64) → Prop) : Prop := ∃ (P : Int32 → SI → SF → Prop) (PX : Nat → SI → SF → Prop), wp_CJ_output p1 I F P PX ∧ (∀ k I F, PX k I F → (k = 1 ∧ Post 1 I F g)) ∧ ∀ r I F, P r I F → Post 0 I F (vp_updL g (0 : Int32).toNatClampNeg r.toInt64)
set_option maxHeartbeats 4000000 in
set_option maxRecDepth 100000 in
theorem c_LW_output (l : Launch) (hlt : l.stackTraces = false) (D : va_G) (a : Nat → Nat) (cI cZ cQ cJ : ClassId) (hJ : xJ 48 a) (I : SI) (F : SF) (g : Nat → Int64) (p1 : Int32) (sz : Nat) (Post : Int32 → SI → SF → (Nat → Int64) → Prop) (hw : wp_LW_output p1 I F g Post) : Met l y_LW_output (Cond.codeWith y_LW_output b_LW_output 4 (some .int) [(0, 9, 12, 13)] :: TB) { frames := 7, cells := 1, slots := 6, locals := 117 } (va_Pc [.ref (a 0), .int p1, .ref (a 47)] (lP D a cI cZ cQ cJ I F g sz)) (lQ D a cI cZ cQ cJ Post sz) 1 6 (xA 48 a sz) := by
  refine va_MetW (cc := b_LW_output) (maxL := 4) (ret := (some .int)) (hh := [(0, 9, 12, 13)]) (by decide) rfl ?_
  intro p e s m args below meth c s₁ B hml hv
  obtain ⟨rfl, rfl, hP, hK, hN, hZ, hX, hC⟩ := hv
  have hx := B.exec
  have hb := B.bytes
  have hr := B.returns
  have hts : ∀ w ∈ TB, w.before _ s = true := fun w h => atoms_spec (ws := Cond.codeWith y_LW_output b_LW_output 4 (some .int) [(0, 9, 12, 13)] :: TB) B.pre w (List.mem_cons_of_mem _ h)
  have hTab := xt_tab B (atoms_spec (ws := Cond.codeWith y_LW_output b_LW_output 4 (some .int) [(0, 9, 12, 13)] :: TB) B.pre _ List.mem_cons_self)
  have hown : s.vm.findClass "CodeJudgeLaw" = some m.cls := findClass_of_methodNamed B.named
  have hlocks := B.notSynchronized
  have hS : va_S (xA 48 a s.heap.size) s.heap s.heap [] := va_S.rf
  have hl := lv_entry ([.ref (a 0), .int p1, .ref (a 47)]) (n := 4) (Nat.le_of_ble_eq_true rfl)
  rw [lg_entry_eq]
  generalize (lg_sl ([.ref (a 0), .int p1, .ref (a 47)]) ++ List.replicate (4 - (lg_sl ([.ref (a 0), .int p1, .ref (a 47)])).length) Slot.unset).toArray = ls at hl ⊢
  have hl : lv_has ls 4 [(0, .ref (a 0)), (1, .int p1), (2, .ref (a 47))] := hl
  obtain ⟨P, PX, hc, hx1, hw⟩ := hw
  refine lv_aload_n hx hb dLW_output_0 rfl (lv_at hl 2 rfl) ?_
  refine lv_iconst (v := 0) hx hb dLW_output_1 (by decide) ?_
  refine lv_aload_n hx hb dLW_output_2 rfl (lv_at hl 0 rfl) ?_
  refine lv_iload_n hx hb dLW_output_3 rfl (lv_at hl 1 rfl) ?_
  refine xl_i (xt_runV (As := [.int p1]) (rest := [.int 0, .ref (a 47)]) ⟨hx, hb, hml, hown, hts⟩ (c_CJ_output l hlt D a cI cZ cQ (xJ_47 hJ) I F p1 s.heap.size P PX hc) (cwV 1 hts (tb_V (C := "CodeJudge") wc_CJ_output tw_4_35 tw_4_36 tw_4_37 tw_1_1) rfl rfl rfl (by decide +kernel) ⟨(Nat.le_of_ble_eq_true rfl), (Nat.le_of_ble_eq_true rfl)⟩) ⟨cY_bl, va_recv hK hP rfl lw_0, lC_at hP hK hN hZ hX hS⟩ rfl rfl hl.1 rfl (lv_room (Nat.le_of_ble_eq_true rfl)) dLW_output_4 ⟨(Nat.le_of_ble_eq_true rfl), (Nat.le_of_ble_eq_true rfl)⟩) hJ hP hS (fun k q I F H locs hP hp hS hO => ?_) (fun r I F H locs hP hp hS => ?_)
  · rcases hx1 k I F hp with ⟨rfl, hw⟩
    · refine xt_catch (own := "CodeJudgeLaw") (k := 1) hown [] ⟨0, 9, 12, 13⟩ [] hTab (fun z hz => nomatch hz) (by decide) (by decide) (hts _ tw_2_0) (va_Nw.use rfl (hX.1 1 (by decide))) hO ?_
      refine lv_astore_n (lv' := [(3, .ref q), (0, .ref (a 0)), (1, .int p1), (2, .ref (a 47))]) hx hb dLW_output_12 rfl hl (by decide) rfl (fun ls hl => ?_)
      refine lv_iconst (v := 1) hx hb dLW_output_13 (by decide) ?_
      refine W.widen (k := 1) (n := 6) (Nat.le_of_ble_eq_true rfl) (Nat.le_of_ble_eq_true rfl) ?_
      exact W.iret (v := 1) hx hb hr (fun t ht hW => ⟨⟨1, (I, F, g), rfl, hw, by subst ht; exact hP⟩, hS.F ht⟩) hS.2.2 dLW_output_14
  · have hw := hw r I F hp
    refine lv_i2l (v := r.toInt64) hx hb dLW_output_7 rfl ?_
    refine va_last (x := r.toInt64) hx hb hK hP (lD hJ) hS 47 3 lw_47 rfl (by unfold vp_in; decide) dLW_output_8 (fun H locs hP _ hS => ?_)
    have hP := lw_put hP
    refine lv_goto (tgt := 15) hx hb dLW_output_9 (by decide) ?_
    refine lv_iconst (v := 0) hx hb dLW_output_15 (by decide) ?_
    refine W.widen (k := 1) (n := 6) (Nat.le_of_ble_eq_true rfl) (Nat.le_of_ble_eq_true rfl) ?_
    exact W.iret (v := 0) hx hb hr (fun t ht hW => ⟨⟨0, (I, F, (vp_updL g (0 : Int32).toNatClampNeg r.toInt64)), rfl, hw, by subst ht; exact hP⟩, hS.F ht⟩) hS.2.2 dLW_output_16
def wp_LW_patch (p1 : Int32) (p2 : Int32) (p3 : Int32) (I : SI) (F : SF) (g : Nat → Int64) (Post : Int32 → SI → SF → (Nat → Int64) → Prop) : Prop := ∃ (P : Int32 → SI → SF → Prop) (PX : Nat → SI → SF → Prop), wp_CJ_patch p1 p2 p3 I F P PX ∧ (∀ k I F, PX k I F → (k = 1 ∧ Post 1 I F g)) ∧ ∀ r I F, P r I F → Post 0 I F (vp_updL g (0 : Int32).toNatClampNeg r.toInt64)
set_option maxHeartbeats 4000000 in
set_option maxRecDepth 100000 in
theorem c_LW_patch (l : Launch) (hlt : l.stackTraces = false) (D : va_G) (a : Nat → Nat) (cI cZ cQ cJ : ClassId) (hJ : xJ 48 a) (I : SI) (F : SF) (g : Nat → Int64) (p1 : Int32) (p2 : Int32) (p3 : Int32) (sz : Nat) (Post : Int32 → SI → SF → (Nat → Int64) → Prop) (hw : wp_LW_patch p1 p2 p3 I F g Post) : Met l y_LW_patch (Cond.codeWith y_LW_patch b_LW_patch 6 (some .int) [(0, 12, 15, 13)] :: TB) { frames := 9, cells := 2, slots := 12, locals := 165 } (va_Pc [.ref (a 0), .int p1, .int p2, .int p3, .ref (a 47)] (lP D a cI cZ cQ cJ I F g sz)) (lQ D a cI cZ cQ cJ Post sz) 2 12 (xA 48 a sz) := by
  refine va_MetW (cc := b_LW_patch) (maxL := 6) (ret := (some .int)) (hh := [(0, 12, 15, 13)]) (by decide) rfl ?_
  intro p e s m args below meth c s₁ B hml hv
  obtain ⟨rfl, rfl, hP, hK, hN, hZ, hX, hC⟩ := hv
  have hx := B.exec
  have hb := B.bytes
  have hr := B.returns
  have hts : ∀ w ∈ TB, w.before _ s = true := fun w h => atoms_spec (ws := Cond.codeWith y_LW_patch b_LW_patch 6 (some .int) [(0, 12, 15, 13)] :: TB) B.pre w (List.mem_cons_of_mem _ h)
  have hTab := xt_tab B (atoms_spec (ws := Cond.codeWith y_LW_patch b_LW_patch 6 (some .int) [(0, 12, 15, 13)] :: TB) B.pre _ List.mem_cons_self)
  have hown : s.vm.findClass "CodeJudgeLaw" = some m.cls := findClass_of_methodNamed B.named
  have hlocks := B.notSynchronized
  have hS : va_S (xA 48 a s.heap.size) s.heap s.heap [] := va_S.rf
  have hl := lv_entry ([.ref (a 0), .int p1, .int p2, .int p3, .ref (a 47)]) (n := 6) (Nat.le_of_ble_eq_true rfl)
  rw [lg_entry_eq]
  generalize (lg_sl ([.ref (a 0), .int p1, .int p2, .int p3, .ref (a 47)]) ++ List.replicate (6 - (lg_sl ([.ref (a 0), .int p1, .int p2, .int p3, .ref (a 47)])).length) Slot.unset).toArray = ls at hl ⊢
  have hl : lv_has ls 6 [(0, .ref (a 0)), (1, .int p1), (2, .int p2), (3, .int p3), (4, .ref (a 47))] := hl
  obtain ⟨P, PX, hc, hx1, hw⟩ := hw
  refine lv_aload hx hb dLW_patch_0 (lv_at hl 4 rfl) ?_
  refine lv_iconst (v := 0) hx hb dLW_patch_2 (by decide) ?_
  refine lv_aload_n hx hb dLW_patch_3 rfl (lv_at hl 0 rfl) ?_
  refine lv_iload_n hx hb dLW_patch_4 rfl (lv_at hl 1 rfl) ?_
  refine lv_iload_n hx hb dLW_patch_5 rfl (lv_at hl 2 rfl) ?_
  refine lv_iload_n hx hb dLW_patch_6 rfl (lv_at hl 3 rfl) ?_
  refine xl_i (xt_runV (As := [.int p1, .int p2, .int p3]) (rest := [.int 0, .ref (a 47)]) ⟨hx, hb, hml, hown, hts⟩ (c_CJ_patch l hlt D a cI cZ cQ (xJ_47 hJ) I F p1 p2 p3 s.heap.size P PX hc) (cwV 3 hts (tb_V (C := "CodeJudge") wc_CJ_patch tw_2_129 tw_2_130 tw_2_131 tw_1_1) rfl rfl rfl (by decide +kernel) ⟨(Nat.le_of_ble_eq_true rfl), (Nat.le_of_ble_eq_true rfl)⟩) ⟨cY_bl, va_recv hK hP rfl lw_0, lC_at hP hK hN hZ hX hS⟩ rfl rfl hl.1 rfl (lv_room (Nat.le_of_ble_eq_true rfl)) dLW_patch_7 ⟨(Nat.le_of_ble_eq_true rfl), (Nat.le_of_ble_eq_true rfl)⟩) hJ hP hS (fun k q I F H locs hP hp hS hO => ?_) (fun r I F H locs hP hp hS => ?_)
  · rcases hx1 k I F hp with ⟨rfl, hw⟩
    · refine xt_catch (own := "CodeJudgeLaw") (k := 1) hown [] ⟨0, 12, 15, 13⟩ [] hTab (fun z hz => nomatch hz) (by decide) (by decide) (hts _ tw_2_0) (va_Nw.use rfl (hX.1 1 (by decide))) hO ?_
      refine lv_astore (lv' := [(5, .ref q), (0, .ref (a 0)), (1, .int p1), (2, .int p2), (3, .int p3), (4, .ref (a 47))]) hx hb dLW_patch_15 hl (by decide) rfl (fun ls hl => ?_)
      refine lv_iconst (v := 1) hx hb dLW_patch_17 (by decide) ?_
      refine W.widen (k := 2) (n := 12) (Nat.le_of_ble_eq_true rfl) (Nat.le_of_ble_eq_true rfl) ?_
      exact W.iret (v := 1) hx hb hr (fun t ht hW => ⟨⟨1, (I, F, g), rfl, hw, by subst ht; exact hP⟩, hS.F ht⟩) hS.2.2 dLW_patch_18
  · have hw := hw r I F hp
    refine lv_i2l (v := r.toInt64) hx hb dLW_patch_10 rfl ?_
    refine va_last (x := r.toInt64) hx hb hK hP (lD hJ) hS 47 3 lw_47 rfl (by unfold vp_in; decide) dLW_patch_11 (fun H locs hP _ hS => ?_)
    have hP := lw_put hP
    refine lv_goto (tgt := 19) hx hb dLW_patch_12 (by decide) ?_
    refine lv_iconst (v := 0) hx hb dLW_patch_19 (by decide) ?_
    refine W.widen (k := 2) (n := 12) (Nat.le_of_ble_eq_true rfl) (Nat.le_of_ble_eq_true rfl) ?_
    exact W.iret (v := 0) hx hb hr (fun t ht hW => ⟨⟨0, (I, F, (vp_updL g (0 : Int32).toNatClampNeg r.toInt64)), rfl, hw, by subst ht; exact hP⟩, hS.F ht⟩) hS.2.2 dLW_patch_20
def wp_LW_run (p1 : Int32) (I : SI) (F : SF) (g : Nat → Int64) (Post : Int32 → SI → SF → (Nat → Int64) → Prop) : Prop := ∃ (P : Int32 → SI → SF → Prop) (PX : Nat → SI → SF → Prop), wp_CJ_run p1 I F P PX ∧ (∀ k I F, PX k I F → (k = 2 ∧ Post 1 I F g) ∨ (k = 3 ∧ Post 2 I F g)) ∧ ∀ r I F, P r I F → Post 0 I F (vp_updL g (0 : Int32).toNatClampNeg r.toInt64)
set_option maxHeartbeats 4000000 in
set_option maxRecDepth 100000 in
theorem c_LW_run (l : Launch) (hlt : l.stackTraces = false) (D : va_G) (a : Nat → Nat) (cI cZ cQ cJ : ClassId) (hJ : xJ 48 a) (I : SI) (F : SF) (g : Nat → Int64) (p1 : Int32) (sz : Nat) (Post : Int32 → SI → SF → (Nat → Int64) → Prop) (hw : wp_LW_run p1 I F g Post) : Met l y_LW_run (Cond.codeWith y_LW_run b_LW_run 4 (some .int) [(0, 9, 12, 15), (0, 9, 15, 21)] :: TB) { frames := 8, cells := 1, slots := 6, locals := 181 } (va_Pc [.ref (a 0), .int p1, .ref (a 47)] (lP D a cI cZ cQ cJ I F g sz)) (lQ D a cI cZ cQ cJ Post sz) 1 6 (xA 48 a sz) := by
  refine va_MetW (cc := b_LW_run) (maxL := 4) (ret := (some .int)) (hh := [(0, 9, 12, 15), (0, 9, 15, 21)]) (by decide) rfl ?_
  intro p e s m args below meth c s₁ B hml hv
  obtain ⟨rfl, rfl, hP, hK, hN, hZ, hX, hC⟩ := hv
  have hx := B.exec
  have hb := B.bytes
  have hr := B.returns
  have hts : ∀ w ∈ TB, w.before _ s = true := fun w h => atoms_spec (ws := Cond.codeWith y_LW_run b_LW_run 4 (some .int) [(0, 9, 12, 15), (0, 9, 15, 21)] :: TB) B.pre w (List.mem_cons_of_mem _ h)
  have hTab := xt_tab B (atoms_spec (ws := Cond.codeWith y_LW_run b_LW_run 4 (some .int) [(0, 9, 12, 15), (0, 9, 15, 21)] :: TB) B.pre _ List.mem_cons_self)
  have hown : s.vm.findClass "CodeJudgeLaw" = some m.cls := findClass_of_methodNamed B.named
  have hlocks := B.notSynchronized
  have hS : va_S (xA 48 a s.heap.size) s.heap s.heap [] := va_S.rf
  have hl := lv_entry ([.ref (a 0), .int p1, .ref (a 47)]) (n := 4) (Nat.le_of_ble_eq_true rfl)
  rw [lg_entry_eq]
  generalize (lg_sl ([.ref (a 0), .int p1, .ref (a 47)]) ++ List.replicate (4 - (lg_sl ([.ref (a 0), .int p1, .ref (a 47)])).length) Slot.unset).toArray = ls at hl ⊢
  have hl : lv_has ls 4 [(0, .ref (a 0)), (1, .int p1), (2, .ref (a 47))] := hl
  obtain ⟨P, PX, hc, hx1, hw⟩ := hw
  refine lv_aload_n hx hb dLW_run_0 rfl (lv_at hl 2 rfl) ?_
  refine lv_iconst (v := 0) hx hb dLW_run_1 (by decide) ?_
  refine lv_aload_n hx hb dLW_run_2 rfl (lv_at hl 0 rfl) ?_
  refine lv_iload_n hx hb dLW_run_3 rfl (lv_at hl 1 rfl) ?_
  refine xl_i (xt_runV (As := [.int p1]) (rest := [.int 0, .ref (a 47)]) ⟨hx, hb, hml, hown, hts⟩ (c_CJ_run l hlt D a cI cZ cQ (xJ_47 hJ) I F p1 s.heap.size P PX hc) (cwV 1 hts (tb_V (C := "CodeJudge") wc_CJ_run tw_3_104 tw_3_105 tw_3_106 tw_1_1) rfl rfl rfl (by decide +kernel) ⟨(Nat.le_of_ble_eq_true rfl), (Nat.le_of_ble_eq_true rfl)⟩) ⟨cY_bl, va_recv hK hP rfl lw_0, lC_at hP hK hN hZ hX hS⟩ rfl rfl hl.1 rfl (lv_room (Nat.le_of_ble_eq_true rfl)) dLW_run_4 ⟨(Nat.le_of_ble_eq_true rfl), (Nat.le_of_ble_eq_true rfl)⟩) hJ hP hS (fun k q I F H locs hP hp hS hO => ?_) (fun r I F H locs hP hp hS => ?_)
  · rcases hx1 k I F hp with ⟨rfl, hw⟩ | ⟨rfl, hw⟩
    · refine xt_catch (own := "CodeJudgeLaw") (k := 2) hown [] ⟨0, 9, 12, 15⟩ [⟨0, 9, 15, 21⟩] hTab (fun z hz => nomatch hz) (by decide) (by decide) (hts _ tw_2_1) (va_Nw.use rfl (hX.1 2 (by decide))) hO ?_
      refine lv_astore_n (lv' := [(3, .ref q), (0, .ref (a 0)), (1, .int p1), (2, .ref (a 47))]) hx hb dLW_run_12 rfl hl (by decide) rfl (fun ls hl => ?_)
      refine lv_iconst (v := 1) hx hb dLW_run_13 (by decide) ?_
      refine W.widen (k := 1) (n := 6) (Nat.le_of_ble_eq_true rfl) (Nat.le_of_ble_eq_true rfl) ?_
      exact W.iret (v := 1) hx hb hr (fun t ht hW => ⟨⟨1, (I, F, g), rfl, hw, by subst ht; exact hP⟩, hS.F ht⟩) hS.2.2 dLW_run_14
    · refine xt_catch (own := "CodeJudgeLaw") (k := 3) hown [⟨0, 9, 12, 15⟩] ⟨0, 9, 15, 21⟩ [] hTab (fun z hz => by
      simp only [List.mem_cons, List.not_mem_nil, or_false] at hz
      rcases hz with rfl
      · exact ⟨by decide, by decide, xe 2, hts _ tw_2_1, hC 3 2 (by decide) (by decide) (by decide)⟩) (by decide) (by decide) (hts _ tw_2_98) (va_Nw.use rfl (hX.1 3 (by decide))) hO ?_
      refine lv_astore_n (lv' := [(3, .ref q), (0, .ref (a 0)), (1, .int p1), (2, .ref (a 47))]) hx hb dLW_run_15 rfl hl (by decide) rfl (fun ls hl => ?_)
      refine lv_iconst (v := 2) hx hb dLW_run_16 (by decide) ?_
      refine W.widen (k := 1) (n := 6) (Nat.le_of_ble_eq_true rfl) (Nat.le_of_ble_eq_true rfl) ?_
      exact W.iret (v := 2) hx hb hr (fun t ht hW => ⟨⟨2, (I, F, g), rfl, hw, by subst ht; exact hP⟩, hS.F ht⟩) hS.2.2 dLW_run_17
  · have hw := hw r I F hp
    refine lv_i2l (v := r.toInt64) hx hb dLW_run_7 rfl ?_
    refine va_last (x := r.toInt64) hx hb hK hP (lD hJ) hS 47 3 lw_47 rfl (by unfold vp_in; decide) dLW_run_8 (fun H locs hP _ hS => ?_)
    have hP := lw_put hP
    refine lv_goto (tgt := 18) hx hb dLW_run_9 (by decide) ?_
    refine lv_iconst (v := 0) hx hb dLW_run_18 (by decide) ?_
    refine W.widen (k := 1) (n := 6) (Nat.le_of_ble_eq_true rfl) (Nat.le_of_ble_eq_true rfl) ?_
    exact W.iret (v := 0) hx hb hr (fun t ht hW => ⟨⟨0, (I, F, (vp_updL g (0 : Int32).toNatClampNeg r.toInt64)), rfl, hw, by subst ht; exact hP⟩, hS.F ht⟩) hS.2.2 dLW_run_19
def wp_LW_start (p1 : Int32) (p2 : Int32) (p3 : Int32) (p4 : Int32) (p5 : Int32) (I : SI) (F : SF) (g : Nat → Int64) (Post : Int32 → SI → SF → (Nat → Int64) → Prop) : Prop := ∃ (P : SI → SF → Prop) (PX : Nat → SI → SF → Prop), wp_CJ_start p1 p2 p3 p4 p5 I F P PX ∧ (∀ k I F, PX k I F → (k = 1 ∧ Post 1 I F g) ∨ (k = 2 ∧ Post 2 I F g) ∨ (k = 3 ∧ Post 3 I F g)) ∧ ∀ I F, P I F → Post 0 I F g
set_option maxHeartbeats 4000000 in
set_option maxRecDepth 100000 in
theorem c_LW_start (l : Launch) (hlt : l.stackTraces = false) (D : va_G) (a : Nat → Nat) (cI cZ cQ cJ : ClassId) (hJ : xJ 48 a) (I : SI) (F : SF) (g : Nat → Int64) (p1 : Int32) (p2 : Int32) (p3 : Int32) (p4 : Int32) (p5 : Int32) (sz : Nat) (Post : Int32 → SI → SF → (Nat → Int64) → Prop) (hw : wp_LW_start p1 p2 p3 p4 p5 I F g Post) : Met l y_LW_start (Cond.codeWith y_LW_start b_LW_start 7 (some .int) [(0, 11, 14, 13), (0, 11, 18, 15), (0, 11, 22, 21)] :: TB) { frames := 8, cells := 2, slots := 12, locals := 166 } (va_Pc [.ref (a 0), .int p1, .int p2, .int p3, .int p4, .int p5] (lP D a cI cZ cQ cJ I F g sz)) (lQ D a cI cZ cQ cJ Post sz) 2 12 (xA 48 a sz) := by
  refine va_MetW (cc := b_LW_start) (maxL := 7) (ret := (some .int)) (hh := [(0, 11, 14, 13), (0, 11, 18, 15), (0, 11, 22, 21)]) (by decide) rfl ?_
  intro p e s m args below meth c s₁ B hml hv
  obtain ⟨rfl, rfl, hP, hK, hN, hZ, hX, hC⟩ := hv
  have hx := B.exec
  have hb := B.bytes
  have hr := B.returns
  have hts : ∀ w ∈ TB, w.before _ s = true := fun w h => atoms_spec (ws := Cond.codeWith y_LW_start b_LW_start 7 (some .int) [(0, 11, 14, 13), (0, 11, 18, 15), (0, 11, 22, 21)] :: TB) B.pre w (List.mem_cons_of_mem _ h)
  have hTab := xt_tab B (atoms_spec (ws := Cond.codeWith y_LW_start b_LW_start 7 (some .int) [(0, 11, 14, 13), (0, 11, 18, 15), (0, 11, 22, 21)] :: TB) B.pre _ List.mem_cons_self)
  have hown : s.vm.findClass "CodeJudgeLaw" = some m.cls := findClass_of_methodNamed B.named
  have hlocks := B.notSynchronized
  have hS : va_S (xA 48 a s.heap.size) s.heap s.heap [] := va_S.rf
  have hl := lv_entry ([.ref (a 0), .int p1, .int p2, .int p3, .int p4, .int p5]) (n := 7) (Nat.le_of_ble_eq_true rfl)
  rw [lg_entry_eq]
  generalize (lg_sl ([.ref (a 0), .int p1, .int p2, .int p3, .int p4, .int p5]) ++ List.replicate (7 - (lg_sl ([.ref (a 0), .int p1, .int p2, .int p3, .int p4, .int p5])).length) Slot.unset).toArray = ls at hl ⊢
  have hl : lv_has ls 7 [(0, .ref (a 0)), (1, .int p1), (2, .int p2), (3, .int p3), (4, .int p4), (5, .int p5)] := hl
  obtain ⟨P, PX, hc, hx1, hw⟩ := hw
  refine lv_aload_n hx hb dLW_start_0 rfl (lv_at hl 0 rfl) ?_
  refine lv_iload_n hx hb dLW_start_1 rfl (lv_at hl 1 rfl) ?_
  refine lv_iload_n hx hb dLW_start_2 rfl (lv_at hl 2 rfl) ?_
  refine lv_iload_n hx hb dLW_start_3 rfl (lv_at hl 3 rfl) ?_
  refine lv_iload hx hb dLW_start_4 (lv_at hl 4 rfl) ?_
  refine lv_iload hx hb dLW_start_6 (lv_at hl 5 rfl) ?_
  refine xl_v (xt_runV (As := [.int p1, .int p2, .int p3, .int p4, .int p5]) (rest := []) ⟨hx, hb, hml, hown, hts⟩ (c_CJ_start l hlt D a cI cZ cQ (xJ_47 hJ) I F p1 p2 p3 p4 p5 s.heap.size P PX hc) (cwV 5 hts (tb_V (C := "CodeJudge") wc_CJ_start tw_3_44 tw_3_45 tw_3_46 tw_1_1) rfl rfl rfl (by decide +kernel) ⟨(Nat.le_of_ble_eq_true rfl), (Nat.le_of_ble_eq_true rfl)⟩) ⟨cY_bl, va_recv hK hP rfl lw_0, lC_at hP hK hN hZ hX hS⟩ rfl rfl hl.1 rfl (lv_room (Nat.le_of_ble_eq_true rfl)) dLW_start_8 ⟨(Nat.le_of_ble_eq_true rfl), (Nat.le_of_ble_eq_true rfl)⟩) hJ hP hS (fun k q I F H locs hP hp hS hO => ?_) (fun I F H locs hP hp hS => ?_)
  · rcases hx1 k I F hp with ⟨rfl, hw⟩ | ⟨rfl, hw⟩ | ⟨rfl, hw⟩
    · refine xt_catch (own := "CodeJudgeLaw") (k := 1) hown [] ⟨0, 11, 14, 13⟩ [⟨0, 11, 18, 15⟩, ⟨0, 11, 22, 21⟩] hTab (fun z hz => nomatch hz) (by decide) (by decide) (hts _ tw_2_0) (va_Nw.use rfl (hX.1 1 (by decide))) hO ?_
      refine lv_astore (lv' := [(6, .ref q), (0, .ref (a 0)), (1, .int p1), (2, .int p2), (3, .int p3), (4, .int p4), (5, .int p5)]) hx hb dLW_start_14 hl (by decide) rfl (fun ls hl => ?_)
      refine lv_iconst (v := 1) hx hb dLW_start_16 (by decide) ?_
      refine W.widen (k := 2) (n := 12) (Nat.le_of_ble_eq_true rfl) (Nat.le_of_ble_eq_true rfl) ?_
      exact W.iret (v := 1) hx hb hr (fun t ht hW => ⟨⟨1, (I, F, g), rfl, hw, by subst ht; exact hP⟩, hS.F ht⟩) hS.2.2 dLW_start_17
    · refine xt_catch (own := "CodeJudgeLaw") (k := 2) hown [⟨0, 11, 14, 13⟩] ⟨0, 11, 18, 15⟩ [⟨0, 11, 22, 21⟩] hTab (fun z hz => by
      simp only [List.mem_cons, List.not_mem_nil, or_false] at hz
      rcases hz with rfl
      · exact ⟨by decide, by decide, xe 1, hts _ tw_2_0, hC 2 1 (by decide) (by decide) (by decide)⟩) (by decide) (by decide) (hts _ tw_2_1) (va_Nw.use rfl (hX.1 2 (by decide))) hO ?_
      refine lv_astore (lv' := [(6, .ref q), (0, .ref (a 0)), (1, .int p1), (2, .int p2), (3, .int p3), (4, .int p4), (5, .int p5)]) hx hb dLW_start_18 hl (by decide) rfl (fun ls hl => ?_)
      refine lv_iconst (v := 2) hx hb dLW_start_20 (by decide) ?_
      refine W.widen (k := 2) (n := 12) (Nat.le_of_ble_eq_true rfl) (Nat.le_of_ble_eq_true rfl) ?_
      exact W.iret (v := 2) hx hb hr (fun t ht hW => ⟨⟨2, (I, F, g), rfl, hw, by subst ht; exact hP⟩, hS.F ht⟩) hS.2.2 dLW_start_21
    · refine xt_catch (own := "CodeJudgeLaw") (k := 3) hown [⟨0, 11, 14, 13⟩, ⟨0, 11, 18, 15⟩] ⟨0, 11, 22, 21⟩ [] hTab (fun z hz => by
      simp only [List.mem_cons, List.not_mem_nil, or_false] at hz
      rcases hz with rfl | rfl
      · exact ⟨by decide, by decide, xe 1, hts _ tw_2_0, hC 3 1 (by decide) (by decide) (by decide)⟩
      · exact ⟨by decide, by decide, xe 2, hts _ tw_2_1, hC 3 2 (by decide) (by decide) (by decide)⟩) (by decide) (by decide) (hts _ tw_2_98) (va_Nw.use rfl (hX.1 3 (by decide))) hO ?_
      refine lv_astore (lv' := [(6, .ref q), (0, .ref (a 0)), (1, .int p1), (2, .int p2), (3, .int p3), (4, .int p4), (5, .int p5)]) hx hb dLW_start_22 hl (by decide) rfl (fun ls hl => ?_)
      refine lv_iconst (v := 3) hx hb dLW_start_24 (by decide) ?_
      refine W.widen (k := 2) (n := 12) (Nat.le_of_ble_eq_true rfl) (Nat.le_of_ble_eq_true rfl) ?_
      exact W.iret (v := 3) hx hb hr (fun t ht hW => ⟨⟨3, (I, F, g), rfl, hw, by subst ht; exact hP⟩, hS.F ht⟩) hS.2.2 dLW_start_25
  · have hw := hw I F hp
    refine lv_goto (tgt := 26) hx hb dLW_start_11 (by decide) ?_
    refine lv_iconst (v := 0) hx hb dLW_start_26 (by decide) ?_
    refine W.widen (k := 2) (n := 12) (Nat.le_of_ble_eq_true rfl) (Nat.le_of_ble_eq_true rfl) ?_
    exact W.iret (v := 0) hx hb hr (fun t ht hW => ⟨⟨0, (I, F, g), rfl, hw, by subst ht; exact hP⟩, hS.F ht⟩) hS.2.2 dLW_start_27
def wp_LW_state (p1 : Int32) (I : SI) (F : SF) (g : Nat → Int64) (Post : Int32 → SI → SF → (Nat → Int64) → Prop) : Prop := ∃ (P : Int32 → SI → SF → Prop) (PX : Nat → SI → SF → Prop), wp_CJ_state p1 I F P PX ∧ (∀ k I F, PX k I F → (k = 2 ∧ Post 1 I F g) ∨ (k = 3 ∧ Post 2 I F g)) ∧ ∀ r I F, P r I F → Post 0 I F (vp_updL g (0 : Int32).toNatClampNeg r.toInt64)
set_option maxHeartbeats 4000000 in
set_option maxRecDepth 100000 in
theorem c_LW_state (l : Launch) (hlt : l.stackTraces = false) (D : va_G) (a : Nat → Nat) (cI cZ cQ cJ : ClassId) (hJ : xJ 48 a) (I : SI) (F : SF) (g : Nat → Int64) (p1 : Int32) (sz : Nat) (Post : Int32 → SI → SF → (Nat → Int64) → Prop) (hw : wp_LW_state p1 I F g Post) : Met l y_LW_state (Cond.codeWith y_LW_state b_LW_state 4 (some .int) [(0, 9, 12, 15), (0, 9, 15, 21)] :: TB) { frames := 8, cells := 1, slots := 6, locals := 137 } (va_Pc [.ref (a 0), .int p1, .ref (a 47)] (lP D a cI cZ cQ cJ I F g sz)) (lQ D a cI cZ cQ cJ Post sz) 1 6 (xA 48 a sz) := by
  refine va_MetW (cc := b_LW_state) (maxL := 4) (ret := (some .int)) (hh := [(0, 9, 12, 15), (0, 9, 15, 21)]) (by decide) rfl ?_
  intro p e s m args below meth c s₁ B hml hv
  obtain ⟨rfl, rfl, hP, hK, hN, hZ, hX, hC⟩ := hv
  have hx := B.exec
  have hb := B.bytes
  have hr := B.returns
  have hts : ∀ w ∈ TB, w.before _ s = true := fun w h => atoms_spec (ws := Cond.codeWith y_LW_state b_LW_state 4 (some .int) [(0, 9, 12, 15), (0, 9, 15, 21)] :: TB) B.pre w (List.mem_cons_of_mem _ h)
  have hTab := xt_tab B (atoms_spec (ws := Cond.codeWith y_LW_state b_LW_state 4 (some .int) [(0, 9, 12, 15), (0, 9, 15, 21)] :: TB) B.pre _ List.mem_cons_self)
  have hown : s.vm.findClass "CodeJudgeLaw" = some m.cls := findClass_of_methodNamed B.named
  have hlocks := B.notSynchronized
  have hS : va_S (xA 48 a s.heap.size) s.heap s.heap [] := va_S.rf
  have hl := lv_entry ([.ref (a 0), .int p1, .ref (a 47)]) (n := 4) (Nat.le_of_ble_eq_true rfl)
  rw [lg_entry_eq]
  generalize (lg_sl ([.ref (a 0), .int p1, .ref (a 47)]) ++ List.replicate (4 - (lg_sl ([.ref (a 0), .int p1, .ref (a 47)])).length) Slot.unset).toArray = ls at hl ⊢
  have hl : lv_has ls 4 [(0, .ref (a 0)), (1, .int p1), (2, .ref (a 47))] := hl
  obtain ⟨P, PX, hc, hx1, hw⟩ := hw
  refine lv_aload_n hx hb dLW_state_0 rfl (lv_at hl 2 rfl) ?_
  refine lv_iconst (v := 0) hx hb dLW_state_1 (by decide) ?_
  refine lv_aload_n hx hb dLW_state_2 rfl (lv_at hl 0 rfl) ?_
  refine lv_iload_n hx hb dLW_state_3 rfl (lv_at hl 1 rfl) ?_
  refine xl_i (xt_runV (As := [.int p1]) (rest := [.int 0, .ref (a 47)]) ⟨hx, hb, hml, hown, hts⟩ (c_CJ_state l hlt D a cI cZ cQ (xJ_47 hJ) I F p1 s.heap.size P PX hc) (cwV 1 hts (tb_V (C := "CodeJudge") wc_CJ_state tw_4_2 tw_4_3 tw_4_4 tw_1_1) rfl rfl rfl (by decide +kernel) ⟨(Nat.le_of_ble_eq_true rfl), (Nat.le_of_ble_eq_true rfl)⟩) ⟨cY_bl, va_recv hK hP rfl lw_0, lC_at hP hK hN hZ hX hS⟩ rfl rfl hl.1 rfl (lv_room (Nat.le_of_ble_eq_true rfl)) dLW_state_4 ⟨(Nat.le_of_ble_eq_true rfl), (Nat.le_of_ble_eq_true rfl)⟩) hJ hP hS (fun k q I F H locs hP hp hS hO => ?_) (fun r I F H locs hP hp hS => ?_)
  · rcases hx1 k I F hp with ⟨rfl, hw⟩ | ⟨rfl, hw⟩
    · refine xt_catch (own := "CodeJudgeLaw") (k := 2) hown [] ⟨0, 9, 12, 15⟩ [⟨0, 9, 15, 21⟩] hTab (fun z hz => nomatch hz) (by decide) (by decide) (hts _ tw_2_1) (va_Nw.use rfl (hX.1 2 (by decide))) hO ?_
      refine lv_astore_n (lv' := [(3, .ref q), (0, .ref (a 0)), (1, .int p1), (2, .ref (a 47))]) hx hb dLW_state_12 rfl hl (by decide) rfl (fun ls hl => ?_)
      refine lv_iconst (v := 1) hx hb dLW_state_13 (by decide) ?_
      refine W.widen (k := 1) (n := 6) (Nat.le_of_ble_eq_true rfl) (Nat.le_of_ble_eq_true rfl) ?_
      exact W.iret (v := 1) hx hb hr (fun t ht hW => ⟨⟨1, (I, F, g), rfl, hw, by subst ht; exact hP⟩, hS.F ht⟩) hS.2.2 dLW_state_14
    · refine xt_catch (own := "CodeJudgeLaw") (k := 3) hown [⟨0, 9, 12, 15⟩] ⟨0, 9, 15, 21⟩ [] hTab (fun z hz => by
      simp only [List.mem_cons, List.not_mem_nil, or_false] at hz
      rcases hz with rfl
      · exact ⟨by decide, by decide, xe 2, hts _ tw_2_1, hC 3 2 (by decide) (by decide) (by decide)⟩) (by decide) (by decide) (hts _ tw_2_98) (va_Nw.use rfl (hX.1 3 (by decide))) hO ?_
      refine lv_astore_n (lv' := [(3, .ref q), (0, .ref (a 0)), (1, .int p1), (2, .ref (a 47))]) hx hb dLW_state_15 rfl hl (by decide) rfl (fun ls hl => ?_)
      refine lv_iconst (v := 2) hx hb dLW_state_16 (by decide) ?_
      refine W.widen (k := 1) (n := 6) (Nat.le_of_ble_eq_true rfl) (Nat.le_of_ble_eq_true rfl) ?_
      exact W.iret (v := 2) hx hb hr (fun t ht hW => ⟨⟨2, (I, F, g), rfl, hw, by subst ht; exact hP⟩, hS.F ht⟩) hS.2.2 dLW_state_17
  · have hw := hw r I F hp
    refine lv_i2l (v := r.toInt64) hx hb dLW_state_7 rfl ?_
    refine va_last (x := r.toInt64) hx hb hK hP (lD hJ) hS 47 3 lw_47 rfl (by unfold vp_in; decide) dLW_state_8 (fun H locs hP _ hS => ?_)
    have hP := lw_put hP
    refine lv_goto (tgt := 18) hx hb dLW_state_9 (by decide) ?_
    refine lv_iconst (v := 0) hx hb dLW_state_18 (by decide) ?_
    refine W.widen (k := 1) (n := 6) (Nat.le_of_ble_eq_true rfl) (Nat.le_of_ble_eq_true rfl) ?_
    exact W.iret (v := 0) hx hb hr (fun t ht hW => ⟨⟨0, (I, F, (vp_updL g (0 : Int32).toNatClampNeg r.toInt64)), rfl, hw, by subst ht; exact hP⟩, hS.F ht⟩) hS.2.2 dLW_state_19
def wp_LW_type (p1 : Int32) (p2 : Int32) (p3 : Int32) (p4 : Int32) (I : SI) (F : SF) (g : Nat → Int64) (Post : Int32 → SI → SF → (Nat → Int64) → Prop) : Prop := ∃ (P : Int32 → SI → SF → Prop) (PX : Nat → SI → SF → Prop), wp_CJ_type p1 p2 p3 p4 I F P PX ∧ (∀ k I F, PX k I F → (k = 1 ∧ Post 1 I F g) ∨ (k = 3 ∧ Post 2 I F g)) ∧ ∀ r I F, P r I F → Post 0 I F (vp_updL g (0 : Int32).toNatClampNeg r.toInt64)
set_option maxHeartbeats 4000000 in
set_option maxRecDepth 100000 in
theorem c_LW_type (l : Launch) (hlt : l.stackTraces = false) (D : va_G) (a : Nat → Nat) (cI cZ cQ cJ : ClassId) (hJ : xJ 48 a) (I : SI) (F : SF) (g : Nat → Int64) (p1 : Int32) (p2 : Int32) (p3 : Int32) (p4 : Int32) (sz : Nat) (Post : Int32 → SI → SF → (Nat → Int64) → Prop) (hw : wp_LW_type p1 p2 p3 p4 I F g Post) : Met l y_LW_type (Cond.codeWith y_LW_type b_LW_type 7 (some .int) [(0, 14, 17, 13), (0, 14, 21, 21)] :: TB) { frames := 9, cells := 3, slots := 18, locals := 165 } (va_Pc [.ref (a 0), .int p1, .int p2, .int p3, .int p4, .ref (a 47)] (lP D a cI cZ cQ cJ I F g sz)) (lQ D a cI cZ cQ cJ Post sz) 3 18 (xA 48 a sz) := by
  refine va_MetW (cc := b_LW_type) (maxL := 7) (ret := (some .int)) (hh := [(0, 14, 17, 13), (0, 14, 21, 21)]) (by decide) rfl ?_
  intro p e s m args below meth c s₁ B hml hv
  obtain ⟨rfl, rfl, hP, hK, hN, hZ, hX, hC⟩ := hv
  have hx := B.exec
  have hb := B.bytes
  have hr := B.returns
  have hts : ∀ w ∈ TB, w.before _ s = true := fun w h => atoms_spec (ws := Cond.codeWith y_LW_type b_LW_type 7 (some .int) [(0, 14, 17, 13), (0, 14, 21, 21)] :: TB) B.pre w (List.mem_cons_of_mem _ h)
  have hTab := xt_tab B (atoms_spec (ws := Cond.codeWith y_LW_type b_LW_type 7 (some .int) [(0, 14, 17, 13), (0, 14, 21, 21)] :: TB) B.pre _ List.mem_cons_self)
  have hown : s.vm.findClass "CodeJudgeLaw" = some m.cls := findClass_of_methodNamed B.named
  have hlocks := B.notSynchronized
  have hS : va_S (xA 48 a s.heap.size) s.heap s.heap [] := va_S.rf
  have hl := lv_entry ([.ref (a 0), .int p1, .int p2, .int p3, .int p4, .ref (a 47)]) (n := 7) (Nat.le_of_ble_eq_true rfl)
  rw [lg_entry_eq]
  generalize (lg_sl ([.ref (a 0), .int p1, .int p2, .int p3, .int p4, .ref (a 47)]) ++ List.replicate (7 - (lg_sl ([.ref (a 0), .int p1, .int p2, .int p3, .int p4, .ref (a 47)])).length) Slot.unset).toArray = ls at hl ⊢
  have hl : lv_has ls 7 [(0, .ref (a 0)), (1, .int p1), (2, .int p2), (3, .int p3), (4, .int p4), (5, .ref (a 47))] := hl
  obtain ⟨P, PX, hc, hx1, hw⟩ := hw
  refine lv_aload hx hb dLW_type_0 (lv_at hl 5 rfl) ?_
  refine lv_iconst (v := 0) hx hb dLW_type_2 (by decide) ?_
  refine lv_aload_n hx hb dLW_type_3 rfl (lv_at hl 0 rfl) ?_
  refine lv_iload_n hx hb dLW_type_4 rfl (lv_at hl 1 rfl) ?_
  refine lv_iload_n hx hb dLW_type_5 rfl (lv_at hl 2 rfl) ?_
  refine lv_iload_n hx hb dLW_type_6 rfl (lv_at hl 3 rfl) ?_
  refine lv_iload hx hb dLW_type_7 (lv_at hl 4 rfl) ?_
  refine xl_i (xt_runV (As := [.int p1, .int p2, .int p3, .int p4]) (rest := [.int 0, .ref (a 47)]) ⟨hx, hb, hml, hown, hts⟩ (c_CJ_type l hlt D a cI cZ cQ (xJ_47 hJ) I F p1 p2 p3 p4 s.heap.size P PX hc) (cwV 4 hts (tb_V (C := "CodeJudge") wc_CJ_type tw_3_28 tw_3_29 tw_3_30 tw_1_1) rfl rfl rfl (by decide +kernel) ⟨(Nat.le_of_ble_eq_true rfl), (Nat.le_of_ble_eq_true rfl)⟩) ⟨cY_bl, va_recv hK hP rfl lw_0, lC_at hP hK hN hZ hX hS⟩ rfl rfl hl.1 rfl (lv_room (Nat.le_of_ble_eq_true rfl)) dLW_type_9 ⟨(Nat.le_of_ble_eq_true rfl), (Nat.le_of_ble_eq_true rfl)⟩) hJ hP hS (fun k q I F H locs hP hp hS hO => ?_) (fun r I F H locs hP hp hS => ?_)
  · rcases hx1 k I F hp with ⟨rfl, hw⟩ | ⟨rfl, hw⟩
    · refine xt_catch (own := "CodeJudgeLaw") (k := 1) hown [] ⟨0, 14, 17, 13⟩ [⟨0, 14, 21, 21⟩] hTab (fun z hz => nomatch hz) (by decide) (by decide) (hts _ tw_2_0) (va_Nw.use rfl (hX.1 1 (by decide))) hO ?_
      refine lv_astore (lv' := [(6, .ref q), (0, .ref (a 0)), (1, .int p1), (2, .int p2), (3, .int p3), (4, .int p4), (5, .ref (a 47))]) hx hb dLW_type_17 hl (by decide) rfl (fun ls hl => ?_)
      refine lv_iconst (v := 1) hx hb dLW_type_19 (by decide) ?_
      refine W.widen (k := 3) (n := 18) (Nat.le_of_ble_eq_true rfl) (Nat.le_of_ble_eq_true rfl) ?_
      exact W.iret (v := 1) hx hb hr (fun t ht hW => ⟨⟨1, (I, F, g), rfl, hw, by subst ht; exact hP⟩, hS.F ht⟩) hS.2.2 dLW_type_20
    · refine xt_catch (own := "CodeJudgeLaw") (k := 3) hown [⟨0, 14, 17, 13⟩] ⟨0, 14, 21, 21⟩ [] hTab (fun z hz => by
      simp only [List.mem_cons, List.not_mem_nil, or_false] at hz
      rcases hz with rfl
      · exact ⟨by decide, by decide, xe 1, hts _ tw_2_0, hC 3 1 (by decide) (by decide) (by decide)⟩) (by decide) (by decide) (hts _ tw_2_98) (va_Nw.use rfl (hX.1 3 (by decide))) hO ?_
      refine lv_astore (lv' := [(6, .ref q), (0, .ref (a 0)), (1, .int p1), (2, .int p2), (3, .int p3), (4, .int p4), (5, .ref (a 47))]) hx hb dLW_type_21 hl (by decide) rfl (fun ls hl => ?_)
      refine lv_iconst (v := 2) hx hb dLW_type_23 (by decide) ?_
      refine W.widen (k := 3) (n := 18) (Nat.le_of_ble_eq_true rfl) (Nat.le_of_ble_eq_true rfl) ?_
      exact W.iret (v := 2) hx hb hr (fun t ht hW => ⟨⟨2, (I, F, g), rfl, hw, by subst ht; exact hP⟩, hS.F ht⟩) hS.2.2 dLW_type_24
  · have hw := hw r I F hp
    refine lv_i2l (v := r.toInt64) hx hb dLW_type_12 rfl ?_
    refine va_last (x := r.toInt64) hx hb hK hP (lD hJ) hS 47 3 lw_47 rfl (by unfold vp_in; decide) dLW_type_13 (fun H locs hP _ hS => ?_)
    have hP := lw_put hP
    refine lv_goto (tgt := 25) hx hb dLW_type_14 (by decide) ?_
    refine lv_iconst (v := 0) hx hb dLW_type_25 (by decide) ?_
    refine W.widen (k := 3) (n := 18) (Nat.le_of_ble_eq_true rfl) (Nat.le_of_ble_eq_true rfl) ?_
    exact W.iret (v := 0) hx hb hr (fun t ht hW => ⟨⟨0, (I, F, (vp_updL g (0 : Int32).toNatClampNeg r.toInt64)), rfl, hw, by subst ht; exact hP⟩, hS.F ht⟩) hS.2.2 dLW_type_26
def wp_LW_value (p1 : Int32) (p2 : Int32) (I : SI) (F : SF) (g : Nat → Int64) (Post : Int32 → SI → SF → (Nat → Int64) → Prop) : Prop := ∃ (P : Int32 → SI → SF → Prop) (PX : Nat → SI → SF → Prop), wp_CJ_value p1 p2 I F P PX ∧ (∀ k I F, PX k I F → (k = 1 ∧ Post 1 I F g)) ∧ ∀ r I F, P r I F → Post 0 I F (vp_updL g (0 : Int32).toNatClampNeg r.toInt64)
set_option maxHeartbeats 4000000 in
set_option maxRecDepth 100000 in
theorem c_LW_value (l : Launch) (hlt : l.stackTraces = false) (D : va_G) (a : Nat → Nat) (cI cZ cQ cJ : ClassId) (hJ : xJ 48 a) (I : SI) (F : SF) (g : Nat → Int64) (p1 : Int32) (p2 : Int32) (sz : Nat) (Post : Int32 → SI → SF → (Nat → Int64) → Prop) (hw : wp_LW_value p1 p2 I F g Post) : Met l y_LW_value (Cond.codeWith y_LW_value b_LW_value 5 (some .int) [(0, 10, 13, 13)] :: TB) { frames := 7, cells := 1, slots := 6, locals := 119 } (va_Pc [.ref (a 0), .int p1, .int p2, .ref (a 47)] (lP D a cI cZ cQ cJ I F g sz)) (lQ D a cI cZ cQ cJ Post sz) 1 6 (xA 48 a sz) := by
  refine va_MetW (cc := b_LW_value) (maxL := 5) (ret := (some .int)) (hh := [(0, 10, 13, 13)]) (by decide) rfl ?_
  intro p e s m args below meth c s₁ B hml hv
  obtain ⟨rfl, rfl, hP, hK, hN, hZ, hX, hC⟩ := hv
  have hx := B.exec
  have hb := B.bytes
  have hr := B.returns
  have hts : ∀ w ∈ TB, w.before _ s = true := fun w h => atoms_spec (ws := Cond.codeWith y_LW_value b_LW_value 5 (some .int) [(0, 10, 13, 13)] :: TB) B.pre w (List.mem_cons_of_mem _ h)
  have hTab := xt_tab B (atoms_spec (ws := Cond.codeWith y_LW_value b_LW_value 5 (some .int) [(0, 10, 13, 13)] :: TB) B.pre _ List.mem_cons_self)
  have hown : s.vm.findClass "CodeJudgeLaw" = some m.cls := findClass_of_methodNamed B.named
  have hlocks := B.notSynchronized
  have hS : va_S (xA 48 a s.heap.size) s.heap s.heap [] := va_S.rf
  have hl := lv_entry ([.ref (a 0), .int p1, .int p2, .ref (a 47)]) (n := 5) (Nat.le_of_ble_eq_true rfl)
  rw [lg_entry_eq]
  generalize (lg_sl ([.ref (a 0), .int p1, .int p2, .ref (a 47)]) ++ List.replicate (5 - (lg_sl ([.ref (a 0), .int p1, .int p2, .ref (a 47)])).length) Slot.unset).toArray = ls at hl ⊢
  have hl : lv_has ls 5 [(0, .ref (a 0)), (1, .int p1), (2, .int p2), (3, .ref (a 47))] := hl
  obtain ⟨P, PX, hc, hx1, hw⟩ := hw
  refine lv_aload_n hx hb dLW_value_0 rfl (lv_at hl 3 rfl) ?_
  refine lv_iconst (v := 0) hx hb dLW_value_1 (by decide) ?_
  refine lv_aload_n hx hb dLW_value_2 rfl (lv_at hl 0 rfl) ?_
  refine lv_iload_n hx hb dLW_value_3 rfl (lv_at hl 1 rfl) ?_
  refine lv_iload_n hx hb dLW_value_4 rfl (lv_at hl 2 rfl) ?_
  refine xl_i (xt_runV (As := [.int p1, .int p2]) (rest := [.int 0, .ref (a 47)]) ⟨hx, hb, hml, hown, hts⟩ (c_CJ_value l hlt D a cI cZ cQ (xJ_47 hJ) I F p1 p2 s.heap.size P PX hc) (cwV 2 hts (tb_V (C := "CodeJudge") wc_CJ_value tw_4_13 tw_4_14 tw_4_15 tw_1_1) rfl rfl rfl (by decide +kernel) ⟨(Nat.le_of_ble_eq_true rfl), (Nat.le_of_ble_eq_true rfl)⟩) ⟨cY_bl, va_recv hK hP rfl lw_0, lC_at hP hK hN hZ hX hS⟩ rfl rfl hl.1 rfl (lv_room (Nat.le_of_ble_eq_true rfl)) dLW_value_5 ⟨(Nat.le_of_ble_eq_true rfl), (Nat.le_of_ble_eq_true rfl)⟩) hJ hP hS (fun k q I F H locs hP hp hS hO => ?_) (fun r I F H locs hP hp hS => ?_)
  · rcases hx1 k I F hp with ⟨rfl, hw⟩
    · refine xt_catch (own := "CodeJudgeLaw") (k := 1) hown [] ⟨0, 10, 13, 13⟩ [] hTab (fun z hz => nomatch hz) (by decide) (by decide) (hts _ tw_2_0) (va_Nw.use rfl (hX.1 1 (by decide))) hO ?_
      refine lv_astore (lv' := [(4, .ref q), (0, .ref (a 0)), (1, .int p1), (2, .int p2), (3, .ref (a 47))]) hx hb dLW_value_13 hl (by decide) rfl (fun ls hl => ?_)
      refine lv_iconst (v := 1) hx hb dLW_value_15 (by decide) ?_
      refine W.widen (k := 1) (n := 6) (Nat.le_of_ble_eq_true rfl) (Nat.le_of_ble_eq_true rfl) ?_
      exact W.iret (v := 1) hx hb hr (fun t ht hW => ⟨⟨1, (I, F, g), rfl, hw, by subst ht; exact hP⟩, hS.F ht⟩) hS.2.2 dLW_value_16
  · have hw := hw r I F hp
    refine lv_i2l (v := r.toInt64) hx hb dLW_value_8 rfl ?_
    refine va_last (x := r.toInt64) hx hb hK hP (lD hJ) hS 47 3 lw_47 rfl (by unfold vp_in; decide) dLW_value_9 (fun H locs hP _ hS => ?_)
    have hP := lw_put hP
    refine lv_goto (tgt := 17) hx hb dLW_value_10 (by decide) ?_
    refine lv_iconst (v := 0) hx hb dLW_value_17 (by decide) ?_
    refine W.widen (k := 1) (n := 6) (Nat.le_of_ble_eq_true rfl) (Nat.le_of_ble_eq_true rfl) ?_
    exact W.iret (v := 0) hx hb hr (fun t ht hW => ⟨⟨0, (I, F, (vp_updL g (0 : Int32).toNatClampNeg r.toInt64)), rfl, hw, by subst ht; exact hP⟩, hS.F ht⟩) hS.2.2 dLW_value_18
