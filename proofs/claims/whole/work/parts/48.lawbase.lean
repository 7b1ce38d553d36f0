/-! the law's walk -/
abbrev b_L : ByteArray := code
/-- the class's world and the reference's, in one heap -/
def lSt (D : va_G) (a b : Nat → Nat) (cI cZ cQ cJ : ClassId) (I : SI) (F : SF) (g : Nat → Int64) (J : SI) (G : SF) (H : Heap) : Prop := va_P D vwCl (lw a cI cZ cQ cJ I F g) H ∧ va_P D vwCl (mw b cI cZ J G) H
/-- all cells apart, and made by the law -/
def LA (a b : Nat → Nat) (sz : Nat) : Prop := xJ 48 a ∧ xJ 26 b ∧ (∀ i j, i < 48 → j < 26 → a i ≠ b j) ∧ (∀ i, i < 48 → sz ≤ a i) ∧ ∀ j, j < 26 → sz ≤ b j
/-- what stays over the law's walk -/
def LC (p : Program) (s : State) (m : MethodId) (meth : Method) (c : Code) (D : va_G) (a b : Nat → Nat) (cI cZ cQ cJ : ClassId) (bs L : Nat) (xs : Nat → Int32) : Prop :=
  p.tables.exec = Jvm.exec ∧ c.code = b_L ∧ c.maxLocals = 7 ∧ s.vm.findClass "CodeJudgeLaw" = some m.cls ∧ (∀ w ∈ TB, w.before #[Value.ref bs] s = true) ∧ va_K D vwCl (lK cI cZ cQ cJ) s ∧ nw s ∧ xZ (fun q => s.heap.size ≤ q) s s.heap ∧ xn s ∧ xc s ∧ LA a b s.heap.size ∧ va_X bs L xs s s.heap ∧ bs < s.heap.size
theorem xs_in {n L j : Nat} (h : 7 * n + 7 ≤ L) (hL : L ≤ 3584) (hj : j ≤ 6) : vp_in (nI (7 * n) + nI j) L := by
  rw [nI_add]
  exact vp_in_nI (by omega) (by omega)
section LL
variable {p : Program} {l : Launch} {e : Env} {R : Room} {s : State} {m : MethodId} {args : Array Value} {below : List Frame} {meth : Method} {c : Code} {H : Heap} {locs : List Loc} {cells slots : Nat} {Q : State → Prop}
variable {pc : Nat} {ls : Array Slot} {rest st0 : List Value} {av : Array Value} {H0 : Heap} {D : va_G} {a b : Nat → Nat} {cI cZ cQ cJ : ClassId} {mc ms : Nat} {I0 J0 : SI} {F1 G0 : SF} {g0 : Nat → Int64}
theorem LA_ab {sz : Nat} (h : LA a b sz) {z q : Nat} (hq : ∃ j, j < 26 ∧ q = b j) (hz : q < z) : ¬ xA 48 a z q := by
  obtain ⟨j, h1, rfl⟩ := hq
  intro hx
  rcases hx with ⟨i, h2, h3⟩ | h2
  · exact h.2.2.1 i j h2 h1 h3.symm
  · omega
theorem LA_ba {sz : Nat} (h : LA a b sz) {z q : Nat} (hq : ∃ i, i < 48 ∧ q = a i) (hz : q < z) : ¬ xA 26 b z q := by
  obtain ⟨i, h1, rfl⟩ := hq
  intro hx
  rcases hx with ⟨j, h2, h3⟩ | h2
  · exact h.2.2.1 i j h1 h2 h3
  · omega
theorem ad_of {N : Nat} {aa : Nat → Nat} {ws : va_W} (hl : ws.map (·.1) = (List.range N).map aa) {k : Nat} {q : Nat × va_E} (h : ws[k]? = some q) : ∃ j, j < N ∧ q.1 = aa j := by
  have h1 : (ws.map (·.1))[k]? = some q.1 := by rw [List.getElem?_map, h]; rfl
  rw [hl, List.getElem?_map] at h1
  by_cases hi : k < N
  · rw [List.getElem?_range hi] at h1
    exact ⟨k, hi, (Option.some.inj h1).symm⟩
  · rw [List.getElem?_eq_none (by simpa using hi)] at h1
    cases h1
theorem LA_48 {sz : Nat} (h : LA a b sz) {z q : Nat} (hz : sz ≤ z) (hq : xA 48 a z q) : sz ≤ q := by
  rcases hq with ⟨i, h1, rfl⟩ | h1
  · exact h.2.2.2.1 i h1
  · omega
theorem LA_26 {sz : Nat} (h : LA a b sz) {z q : Nat} (hz : sz ≤ z) (hq : xA 26 b z q) : sz ≤ q := by
  rcases hq with ⟨i, h1, rfl⟩ | h1
  · exact h.2.2.2.2 i h1
  · omega
/-- behind a call of one of the law's small methods -/
theorem ll_w {P1 : Int32 → SI → SF → (Nat → Int64) → Prop} (hr : va_Run p l e R s m args below meth c H locs cells slots mc ms (F0 m pc ls st0) rest (lQ D a cI cZ cQ cJ P1 H.size av) (xA 48 a H.size)) (hLA : LA a b H0.size) (hA : lSt D a b cI cZ cQ cJ I0 F1 g0 J0 G0 H) (hS : va_S (fun q => H0.size ≤ q) H0 H locs)
    (kk : ∀ (r : Int32) (I : SI) (F : SF) (g : Nat → Int64) (H1 : Heap) (locs1 : List Loc), lSt D a b cI cZ cQ cJ I F g J0 G0 H1 → P1 r I F g → va_S (fun q => H0.size ≤ q) H0 H1 locs1 → W p l e R s m args below meth c H1 locs1 (cells + mc) (slots + ms) Q (F0 m (pc + 3) ls (.int r :: rest))) : W p l e R s m args below meth c H locs cells slots Q (F0 m pc ls st0) :=
  va_calli hr hS (fun q _ h => LA_48 hLA hS.1 h) (fun q h => LA_48 hLA hS.1 h) (fun r u t H1 locs1 ht _ hp hb _ hk hS1 => kk r u.1 u.2.1 u.2.2 H1 locs1 ⟨by rw [← ht]; exact hb, hA.2.kept (fun k q hq => hk q.1 (hA.2 k q hq).lt (LA_ab hLA (ad_of (ws := mw b cI cZ J0 G0) rfl hq) (hA.2 k q hq).lt))⟩ hp hS1)
/-- behind a call of the reference -/
theorem ll_i {P1 : Int32 → SI → SF → Prop} (hr : va_Run p l e R s m args below meth c H locs cells slots 0 0 (F0 m pc ls st0) rest (va_Qi (fun r (u : SI × SF) => P1 r u.1 u.2) (fun u t => va_P D vwCl (mw b cI cZ u.1 u.2) t.heap) (xA 26 b H.size) av) (xA 26 b H.size)) (hLA : LA a b H0.size) (hA : lSt D a b cI cZ cQ cJ I0 F1 g0 J0 G0 H) (hS : va_S (fun q => H0.size ≤ q) H0 H locs)
    (kk : ∀ (r : Int32) (J : SI) (G : SF) (H1 : Heap) (locs1 : List Loc), lSt D a b cI cZ cQ cJ I0 F1 g0 J G H1 → P1 r J G → va_S (fun q => H0.size ≤ q) H0 H1 locs1 → W p l e R s m args below meth c H1 locs1 cells slots Q (F0 m (pc + 3) ls (.int r :: rest))) : W p l e R s m args below meth c H locs cells slots Q (F0 m pc ls st0) :=
  va_calli hr hS (fun q _ h => LA_26 hLA hS.1 h) (fun q h => LA_26 hLA hS.1 h) (fun r u t H1 locs1 ht _ hp hb _ hk hS1 => kk r u.1 u.2 H1 locs1 ⟨hA.1.kept (fun k q hq => hk q.1 (hA.1 k q hq).lt (LA_ba hLA (ad_of (ws := lw a cI cZ cQ cJ I0 F1 g0) rfl hq) (hA.1 k q hq).lt)), by rw [← ht]; exact hb⟩ hp hS1)
theorem ll_v {P1 : SI → SF → Prop} (hr : va_Run p l e R s m args below meth c H locs cells slots 0 0 (F0 m pc ls st0) rest (va_Qv (fun (u : SI × SF) => P1 u.1 u.2) (fun u t => va_P D vwCl (mw b cI cZ u.1 u.2) t.heap) (xA 26 b H.size) av) (xA 26 b H.size)) (hLA : LA a b H0.size) (hA : lSt D a b cI cZ cQ cJ I0 F1 g0 J0 G0 H) (hS : va_S (fun q => H0.size ≤ q) H0 H locs)
    (kk : ∀ (J : SI) (G : SF) (H1 : Heap) (locs1 : List Loc), lSt D a b cI cZ cQ cJ I0 F1 g0 J G H1 → P1 J G → va_S (fun q => H0.size ≤ q) H0 H1 locs1 → W p l e R s m args below meth c H1 locs1 cells slots Q (F0 m (pc + 3) ls rest)) : W p l e R s m args below meth c H locs cells slots Q (F0 m pc ls st0) :=
  va_callv hr hS (fun q _ h => LA_26 hLA hS.1 h) (fun q h => LA_26 hLA hS.1 h) (fun u t H1 locs1 ht _ hp hb _ hk hS1 => kk u.1 u.2 H1 locs1 ⟨hA.1.kept (fun k q hq => hk q.1 (hA.1 k q hq).lt (LA_ba hLA (ad_of (ws := lw a cI cZ cQ cJ I0 F1 g0) rfl hq) (hA.1 k q hq).lt)), by rw [← ht]; exact hb⟩ hp hS1)
/-- what a small method starts from -/
theorem ll_at {I : SI} {F : SF} {g : Nat → Int64} {J : SI} {G : SF} {avl : List Value} (hA : lSt D a b cI cZ cQ cJ I F g J G H) (hK : va_K D vwCl (lK cI cZ cQ cJ) s) (hN : nw s) (hZ : xZ (fun q => s.heap.size ≤ q) s s.heap) (hX : xn s) (hC : xc s) (hLA : LA a b s.heap.size) (hS : va_S (fun q => s.heap.size ≤ q) s.heap H locs) : ∀ U : State, U.heap = H → s.WarmedH U.vm → va_Pc avl (lP D a cI cZ cQ cJ I F g H.size) avl.toArray U := fun U hU hW => by
  refine ⟨rfl, by rw [hU], by rw [hU]; exact hA.1, va_K.moved hW.alike hK, nw_warm hW hN, ?_, xn_warm hW hX, fun i j hi hj hn => va_Nc.moved hW.alike (hC i j hi hj hn)⟩
  rw [hU]
  exact xZ_less (xZ_moved hW.alike (xZ_kept hZ hS.2.1)) (fun q _ h => LA_48 hLA hS.1 h)
theorem ll_mat {I : SI} {F : SF} {g : Nat → Int64} {J : SI} {G : SF} {avl : List Value} (hA : lSt D a b cI cZ cQ cJ I F g J G H) (hK : va_K D vwCl (lK cI cZ cQ cJ) s) : ∀ U : State, U.heap = H → s.WarmedH U.vm → va_Pc avl (mP D b cI cZ J G H.size) avl.toArray U := fun U hU hW => ⟨rfl, by rw [hU], by rw [hU]; exact hA.2, (va_K.moved hW.alike hK).sub [0, 1] rfl⟩
end LL
theorem lg_eq {x y : Int64} (h : x = y) : lg_cmp x y = 0 := by subst h; simp [lg_cmp]
section XW
variable {p : Program} {l : Launch} {e : Env} {R : Room} {s : State} {m : MethodId} {args : Array Value} {below : List Frame} {meth : Method} {c : Code} {H : Heap} {locs : List Loc} {cells slots : Nat}
/-- a static call of a method with a table of its own -/
theorem xw_runS {y : MethodName} {bytes cc : ByteArray} {maxL nL mc ms n index : Nat} {ret : Option FieldType} {hh : List (Nat × Nat × Nat × Nat)} {rm : Room} {Pc : Array Value → State → Prop} {Qc : Array Value → State → Outcome → State → Prop} {free : Addr → Prop} {own : String} {As rest : List Value} {g : JFrame}
    (S : CallFix p m c cc nL s args TB own) (hM : Met l y (Cond.codeWith y bytes maxL ret hh :: TB) rm Pc Qc mc ms free) (hwc : Cond.codeWith y bytes maxL ret hh ∈ TB) (hl : (Cond.methodLink own index y).before args s = true) (hst : (Cond.static y).before args s = true) (hini : (Cond.initialized y.cls).before args s = true) (hrc : rm.cells = mc) (hrs : rm.slots = ms)
    (hy : y.cls ≠ "java/lang/invoke/MethodHandle" ∧ y.cls ≠ "java/lang/invoke/VarHandle") (hd : (parseMethodDescriptor y.desc).map (fun d => d.parameters.length) = some n) (hRf : rm.frames + 1 ≤ R.frames) (hRl : 8 + (maxL + 11) + rm.locals ≤ R.locals) (hp : PreS s H Pc As)
    (hg : g.method = m) (hn : As.length = n) (hsize : g.locals.size = nL) (hstack : g.stack = As.reverse ++ rest) (hW : 2 * g.monitorRoom + (rest.map fun v => v.category).sum ≤ 8) (hdg : decode cc g.pc = .ok (.invokestatic index, 3)) (hf : cells + mc ≤ R.cells ∧ slots + ms ≤ R.slots) :
    va_Run p l e R s m args below meth c H locs cells slots mc ms g rest (Qc As.toArray) (free) := by
  obtain ⟨hx, hb, hml, ho, hts⟩ := S
  have hcode := hts _ hwc
  have hK : Back l R p e below s args y 3 8 (PreOf R mc ms Pc) (PostOf Qc mc ms free) := va_backW (hh := hh) (bytes := bytes) (maxL := maxL) (ret := ret) hM hp.1 hrc hrs hRf hRl (pay_in hts (tb_self hwc)) List.mem_cons_self (fun a' U hW => word_at hW (Or.inl (by first | rfl | simp [Cond.onTables, Cond.keeps, Cond.steady])) hini)
  intro T hT X
  obtain ⟨mk, methM, cM, hnamed, hmethM, -, -, -, -, -, -, hsigM⟩ := Cond.codeWith_spec hcode
  have hstatic : methM.isStatic = true := Cond.static_spec hnamed hmethM hst
  obtain ⟨kP, hkP, -⟩ := className_of_methodNamed hnamed
  have hinitP : kP.init = .initialized := Cond.initialized_spec (findClass_of_methodNamed hnamed) hkP hini
  rw [hsigM] at hd
  have hlen : As.length = methM.sig.parameters.length := hn.trans (Option.some.inj hd).symm
  obtain ⟨vm₁, X₁, hstep₁⟩ := X.invokestatic hx ho hl hnamed hmethM hstatic hkP hinitP hy (g := g) hg (argsL := As) (rest := rest) hlen hstack (by rw [hb]; exact hdg)
  obtain ⟨v, ⟨U', l2, c2, s2⟩, X', ⟨g', mk', t, L, e1, e2, hq, h1, hL, h2, h3⟩, hsteps⟩ := hK m meth c ⟨T.setVm vm₁, locs, cells, slots⟩ { g with stack := rest } (.invokestatic index) mk As.toArray X₁ hg (hsize.trans hml.symm) (by rw [hb]; exact hdg) hW (X₁.named hnamed) ⟨hf.1, hf.2, hp.2 (T.setVm vm₁) hT X₁.warmed⟩
  dsimp only [Pt.U, Pt.locs, Pt.cells, Pt.slots] at X' e1 e2 h1 h2 h3 hsteps
  subst h1; subst h2; subst h3
  exact ⟨v, (T.setVm vm₁).calling g' mk' As.toArray, t, U', L, hT, X', hL, e1, e2, hq, fun target h => hstep₁ _ fun acts => by rw [doInvoke_state]; exact hsteps.trans h⟩
end XW
section SW
variable {p : Program} {l : Launch} {e : Env} {R : Room} {s : State} {m : MethodId} {args : Array Value} {below : List Frame} {meth : Method} {c : Code} {H : Heap} {locs : List Loc} {cells slots : Nat} {Q : State → Prop} {ls : Array Slot} {rest : List Value}
theorem sw_L_40 (hx : p.tables.exec = Jvm.exec) (hb : c.code = b_L) {x : Int32} (k0 : x = 0 → W p l e R s m args below meth c H locs cells slots Q (F0 m 112 ls rest)) (k1 : x = 1 → W p l e R s m args below meth c H locs cells slots Q (F0 m 237 ls rest)) (k2 : x = 2 → W p l e R s m args below meth c H locs cells slots Q (F0 m 317 ls rest)) (k3 : x = 3 → W p l e R s m args below meth c H locs cells slots Q (F0 m 397 ls rest)) (k4 : x = 4 → W p l e R s m args below meth c H locs cells slots Q (F0 m 453 ls rest)) (k5 : x = 5 → W p l e R s m args below meth c H locs cells slots Q (F0 m 516 ls rest)) (k6 : x = 6 → W p l e R s m args below meth c H locs cells slots Q (F0 m 584 ls rest)) (k7 : x = 7 → W p l e R s m args below meth c H locs cells slots Q (F0 m 676 ls rest)) (k8 : x = 8 → W p l e R s m args below meth c H locs cells slots Q (F0 m 760 ls rest)) (k9 : x = 9 → W p l e R s m args below meth c H locs cells slots Q (F0 m 816 ls rest)) (k10 : x = 10 → W p l e R s m args below meth c H locs cells slots Q (F0 m 872 ls rest)) (k11 : x = 11 → W p l e R s m args below meth c H locs cells slots Q (F0 m 940 ls rest)) (k12 : x = 12 → W p l e R s m args below meth c H locs cells slots Q (F0 m 1008 ls rest)) (k13 : x = 13 → W p l e R s m args below meth c H locs cells slots Q (F0 m 1064 ls rest)) (kd : (¬ x = 0 ∧ ¬ x = 1 ∧ ¬ x = 2 ∧ ¬ x = 3 ∧ ¬ x = 4 ∧ ¬ x = 5 ∧ ¬ x = 6 ∧ ¬ x = 7 ∧ ¬ x = 8 ∧ ¬ x = 9 ∧ ¬ x = 10 ∧ ¬ x = 11 ∧ ¬ x = 12 ∧ ¬ x = 13) → W p l e R s m args below meth c H locs cells slots Q (F0 m 1120 ls rest)) : W p l e R s m args below meth c H locs cells slots Q (F0 m 40 ls (.int x :: rest)) := by
  by_cases h0 : x = 0
  · subst h0
    exact lv_tableIn (tgt := 112) hx hb dL_40 (by decide) (by decide) rfl (by decide) (k0 rfl)
  by_cases h1 : x = 1
  · subst h1
    exact lv_tableIn (tgt := 237) hx hb dL_40 (by decide) (by decide) rfl (by decide) (k1 rfl)
  by_cases h2 : x = 2
  · subst h2
    exact lv_tableIn (tgt := 317) hx hb dL_40 (by decide) (by decide) rfl (by decide) (k2 rfl)
  by_cases h3 : x = 3
  · subst h3
    exact lv_tableIn (tgt := 397) hx hb dL_40 (by decide) (by decide) rfl (by decide) (k3 rfl)
  by_cases h4 : x = 4
  · subst h4
    exact lv_tableIn (tgt := 453) hx hb dL_40 (by decide) (by decide) rfl (by decide) (k4 rfl)
  by_cases h5 : x = 5
  · subst h5
    exact lv_tableIn (tgt := 516) hx hb dL_40 (by decide) (by decide) rfl (by decide) (k5 rfl)
  by_cases h6 : x = 6
  · subst h6
    exact lv_tableIn (tgt := 584) hx hb dL_40 (by decide) (by decide) rfl (by decide) (k6 rfl)
  by_cases h7 : x = 7
  · subst h7
    exact lv_tableIn (tgt := 676) hx hb dL_40 (by decide) (by decide) rfl (by decide) (k7 rfl)
  by_cases h8 : x = 8
  · subst h8
    exact lv_tableIn (tgt := 760) hx hb dL_40 (by decide) (by decide) rfl (by decide) (k8 rfl)
  by_cases h9 : x = 9
  · subst h9
    exact lv_tableIn (tgt := 816) hx hb dL_40 (by decide) (by decide) rfl (by decide) (k9 rfl)
  by_cases h10 : x = 10
  · subst h10
    exact lv_tableIn (tgt := 872) hx hb dL_40 (by decide) (by decide) rfl (by decide) (k10 rfl)
  by_cases h11 : x = 11
  · subst h11
    exact lv_tableIn (tgt := 940) hx hb dL_40 (by decide) (by decide) rfl (by decide) (k11 rfl)
  by_cases h12 : x = 12
  · subst h12
    exact lv_tableIn (tgt := 1008) hx hb dL_40 (by decide) (by decide) rfl (by decide) (k12 rfl)
  by_cases h13 : x = 13
  · subst h13
    exact lv_tableIn (tgt := 1064) hx hb dL_40 (by decide) (by decide) rfl (by decide) (k13 rfl)
  have kz := kd ⟨h0, h1, h2, h3, h4, h5, h6, h7, h8, h9, h10, h11, h12, h13⟩
  have n0 := i32_ne h0
  rw [show (0 : Int32).toInt = 0 from rfl] at n0
  have n1 := i32_ne h1
  rw [show (1 : Int32).toInt = 1 from rfl] at n1
  have n2 := i32_ne h2
  rw [show (2 : Int32).toInt = 2 from rfl] at n2
  have n3 := i32_ne h3
  rw [show (3 : Int32).toInt = 3 from rfl] at n3
  have n4 := i32_ne h4
  rw [show (4 : Int32).toInt = 4 from rfl] at n4
  have n5 := i32_ne h5
  rw [show (5 : Int32).toInt = 5 from rfl] at n5
  have n6 := i32_ne h6
  rw [show (6 : Int32).toInt = 6 from rfl] at n6
  have n7 := i32_ne h7
  rw [show (7 : Int32).toInt = 7 from rfl] at n7
  have n8 := i32_ne h8
  rw [show (8 : Int32).toInt = 8 from rfl] at n8
  have n9 := i32_ne h9
  rw [show (9 : Int32).toInt = 9 from rfl] at n9
  have n10 := i32_ne h10
  rw [show (10 : Int32).toInt = 10 from rfl] at n10
  have n11 := i32_ne h11
  rw [show (11 : Int32).toInt = 11 from rfl] at n11
  have n12 := i32_ne h12
  rw [show (12 : Int32).toInt = 12 from rfl] at n12
  have n13 := i32_ne h13
  rw [show (13 : Int32).toInt = 13 from rfl] at n13
  exact lv_tableOut (tgt := 1120) hx hb dL_40 (by omega) (by decide) kz
end SW
