/-! an exception that a method's own table catches; the classes that the table names may still be unresolved -/
section XF
variable {e : Env} {f : JFrame} {q : Addr}
/-- one row of the table that covers the place, and names a class: it is looked up, and the object is of it or not -/
theorem xf_row {S : State} {x : ExceptionTableEntry} {t : List ExceptionTableEntry} {cx : ClassId} {cell : Cell} (hx : covers x f.pc = true) (h0 : x.catchType ≠ 0) (hl : S.vm.ClassLinks e.platform f.method.cls x.catchType cx) (hcell : S.heap[q]? = some cell) (hobj : ∀ k, cell.vm ≠ .statics k)
    (hk : ∃ k, S.vm.classes[cell.cls]? = some k) (hc : ∃ k, S.vm.classes[cx]? = some k) (Q : Handler → Pre) (E : CtlPost) (d : Bool) (acts : List Action) :
    wp (findHandler.go f q (x :: t)) Q E e d acts S ↔ (if S.vm.assignable cell.cls cx = true then Q (.found x.handlerPc) d acts (S.setVm (S.vm.noted f.method.cls x.catchType (.cls cx))) else wp (findHandler.go f q t) Q E e d acts (S.setVm (S.vm.noted f.method.cls x.catchType (.cls cx)))) := by
  obtain ⟨w1, w2⟩ := (resolveClass_links e.toSetting hl).op (op := VmOp.resolveClass f.method.cls x.catchType) rfl
  have same : S.vm.Alike (S.vm.noted f.method.cls x.catchType (.cls cx)) := (Vm.Alike.refl S.vm).noted _ _ _
  obtain ⟨a1, ha1⟩ := hk
  obtain ⟨a2, ha2⟩ := hc
  obtain ⟨b1, hb1, -⟩ := same.2.2 _ _ ha1
  obtain ⟨b2, hb2, -⟩ := same.2.2 _ _ ha2
  have hasg : (S.vm.noted f.method.cls x.catchType (.cls cx)).assignable cell.cls cx = S.vm.assignable cell.cls cx := by rw [same.assignable]
  simp only [covers] at hx
  cases hA : S.vm.assignable cell.cls cx with
  | true => rw [hA] at hasg; simp [findHandler.go, hx, h0, w1, w2, hcell, hobj, hb1, hb2, hasg, VmOp.dirties, VmOp.acts]
  | false => rw [hA] at hasg; simp [findHandler.go, hx, h0, w1, w2, hcell, hobj, hb1, hb2, hasg, VmOp.dirties, VmOp.acts]
/-- rows that aren't the object's, then one that is -/
theorem xf_go {s₀ : State} {cell : Cell} (hobj : ∀ k, cell.vm ≠ .statics k) (hk0 : ∃ k, s₀.vm.classes[cell.cls]? = some k) {x : ExceptionTableEntry} {suf : List ExceptionTableEntry} (hx : covers x f.pc = true) (h0 : x.catchType ≠ 0) {cx : ClassId} (hl : s₀.vm.ClassLinks e.platform f.method.cls x.catchType cx) (hfit : s₀.vm.assignable cell.cls cx = true) :
    ∀ (pre : List ExceptionTableEntry), (∀ y ∈ pre, covers y f.pc = true ∧ y.catchType ≠ 0 ∧ ∃ cy, s₀.vm.ClassLinks e.platform f.method.cls y.catchType cy ∧ s₀.vm.assignable cell.cls cy = false) → ∀ S : State, s₀.WarmedH S.vm → S.heap[q]? = some cell →
      ∃ vm', s₀.WarmedH vm' ∧ ∀ (Q : Handler → Pre) (E : CtlPost) (d : Bool) (acts : List Action), wp (findHandler.go f q (pre ++ x :: suf)) Q E e d acts S ↔ Q (.found x.handlerPc) d acts (S.setVm vm') := by
  obtain ⟨k0, hk0⟩ := hk0
  have step : ∀ (y : ExceptionTableEntry) (cy : ClassId), s₀.vm.ClassLinks e.platform f.method.cls y.catchType cy → ∀ S : State, s₀.WarmedH S.vm → (∃ k, S.vm.classes[cell.cls]? = some k) ∧ (∃ k, S.vm.classes[cy]? = some k) ∧ S.vm.ClassLinks e.platform f.method.cls y.catchType cy ∧ s₀.WarmedH (S.vm.noted f.method.cls y.catchType (.cls cy)) := by
    intro y cy h S hW
    obtain ⟨dk, _, _, kt, hd, _, _, _, _, hkt, _, hopen⟩ := h.here
    obtain ⟨k1, h1, -⟩ := hW.alike.2.2 _ _ hk0
    obtain ⟨k2, h2, -⟩ := hW.alike.2.2 _ _ hkt
    exact ⟨⟨k1, h1⟩, ⟨k2, h2⟩, hW.classLinks h, hW.noted hd hopen (State.rightAt_cls h)⟩
  intro pre
  induction pre with
  | nil =>
    intro _ S hW hcell
    obtain ⟨g1, g2, g3, g4⟩ := step x cx hl S hW
    refine ⟨_, g4, fun Q E d acts => ?_⟩
    rw [List.nil_append, xf_row hx h0 g3 hcell hobj g1 g2, if_pos (by rw [hW.alike.assignable]; exact hfit)]
  | cons y ys ih =>
    intro hp S hW hcell
    obtain ⟨hy, hy0, cy, hyl, hno⟩ := hp y List.mem_cons_self
    obtain ⟨g1, g2, g3, g4⟩ := step y cy hyl S hW
    obtain ⟨vm', hW', hq⟩ := ih (fun z hz => hp z (List.mem_cons_of_mem _ hz)) (S.setVm (S.vm.noted f.method.cls y.catchType (.cls cy))) g4 hcell
    refine ⟨vm', hW', fun Q E d acts => ?_⟩
    rw [List.cons_append, xf_row hy hy0 g3 hcell hobj g1 g2, if_neg (by rw [hW.alike.assignable, hno]; decide)]
    exact hq Q E d acts
end XF
section XG
variable {p : Program} {l : Launch} {e : Env} {R : Room} {s : State} {m : MethodId} {args : Array Value} {below : List Frame} {meth : Method} {c : Code} {H : Heap} {locs : List Loc} {cells slots : Nat} {Q : State → Prop} {pc : Nat} {ls : Array Slot} {rest : List Value}
theorem xt_catch {own : String} {k : Nat} {q : Addr} (hown : s.vm.findClass own = some m.cls) (pre : List ExceptionTableEntry) (x : ExceptionTableEntry) (suf : List ExceptionTableEntry) (hsplit : c.exceptionTable.toList = pre ++ x :: suf)
    (hpass : ∀ z ∈ pre, covers z pc = true ∧ z.catchType ≠ 0 ∧ ∃ nm : String, (Cond.classLink own z.catchType nm).before args s = true ∧ va_Nc (xe k) nm s) (hx : covers x pc = true) (h0 : x.catchType ≠ 0)
    (hlink : (Cond.classLink own x.catchType (xe k)).before args s = true) (hcast : (Cond.castable (xe k) (xe k)).before args s = true) (hO : xt_O k s q H)
    (kk : W p l e R s m args below meth c H locs cells slots Q (F0 m x.handlerPc ls [.ref q])) : xt_W p l e R s m args below meth c H locs cells slots Q (F0 m pc ls rest) q := by
  intro T hT X
  obtain ⟨ce, o1, o2, o3⟩ := hO
  have hpl : e.platform.magicAccessors = ({} : Platform).magicAccessors := by rw [X.admits.platform]
  obtain ⟨c3, c4, hc3, hc4, hasg⟩ := Cond.castable_spec hcast
  cases Option.some.inj (hc3.symm.trans o3)
  obtain ⟨c5, hc5, hcl5⟩ := Cond.classLink_spec hown hlink e.platform hpl
  cases Option.some.inj (hc4.symm.trans hc5)
  have hcell : ((T.setTop (F0 m pc ls rest)).pushFrame (.throwing q)).heap[q]? = some ce := by
    show T.heap[q]? = some ce
    rw [hT]; exact o1
  obtain ⟨vm', hW', hf⟩ := xf_go (e := e) (f := F0 m pc ls rest) (q := q) (s₀ := s) (cell := ce) (by rw [o2]; intro k9 h9; cases h9) (by obtain ⟨k9, h9, -⟩ := Vm.findClass_spec o3; exact ⟨k9, h9⟩) (suf := suf) hx h0 hcl5 hasg pre
    (fun y hy => by
      obtain ⟨h1, h2, nm, h3, h4⟩ := hpass y hy
      obtain ⟨c6, hc6, hcl6⟩ := Cond.classLink_spec hown h3 e.platform hpl
      obtain ⟨a8, b8, g1, g2, g3⟩ := h4
      cases Option.some.inj (g1.symm.trans o3)
      cases Option.some.inj (g2.symm.trans hc6)
      exact ⟨h1, h2, _, hcl6, g3⟩) ((T.setTop (F0 m pc ls rest)).pushFrame (.throwing q)) X.warmed hcell
  have X' := X.noted hW'
  obtain ⟨t, a1, b1⟩ := kk (T.setVm vm') hT X'
  refine ⟨t, ?_, b1⟩
  have hAt : At T (F0 m pc ls rest).method c below := X.here
  obtain ⟨hgo, hwi⟩ := hAt.throwing q
  refine Steps.head hgo hwi ?_
  have hstep : (stepThrowing e ((T.setTop (F0 m pc ls rest)).pushFrame (.throwing q)) q (.java (F0 m pc ls rest) :: T.frames.tail)).Is ((((T.setTop (F0 m pc ls rest)).pushFrame (.throwing q)).setVm vm').setFrames (.java (F0 m x.handlerPc ls [.ref q]) :: T.frames.tail)) [] := by
    simp only [stepThrowing, searchFrame, vmDo]
    generalize hr : Sem.go _ e false [] ((T.setTop (F0 m pc ls rest)).pushFrame (.throwing q)) = res
    obtain ⟨as, rfl, ha⟩ := Sem.eq_ok_of hr (a := Handler.found x.handlerPc) (s' := ((T.setTop (F0 m pc ls rest)).pushFrame (.throwing q)).setVm vm') (acts' := []) (by
      have hfe : ∀ (Q : Handler → Pre) (E : CtlPost) (d : Bool) (acts : List Action), wp (findHandler (F0 m pc ls rest) q) Q E e d acts ((T.setTop (F0 m pc ls rest)).pushFrame (.throwing q)) ↔ Q (.found x.handlerPc) d acts (((T.setTop (F0 m pc ls rest)).pushFrame (.throwing q)).setVm vm') := fun Q E d acts => by
        rw [Jvm.W.findHandler_eq (meth := meth) (code := c) X.method' X.code, hsplit]
        exact hf Q E d acts
      simp [hfe])
    exact ⟨rfl, ha⟩
  rw [stepThread_throwing (frames_entered hAt.top _), hstep.1]
  obtain ⟨g₀, hg⟩ := Option.isSome_iff_exists.mp hAt.top
  obtain ⟨r, hr⟩ := State.topJava?_eq_some.mp hg
  have hr' : (T.setVm vm').frames = .java g₀ :: r := hr
  rw [State.setTop_of_frames _ hr'] at a1
  have e1 : (((T.setTop (F0 m pc ls rest)).pushFrame (.throwing q)).setVm vm').setFrames (.java (F0 m x.handlerPc ls [.ref q]) :: T.frames.tail) = (T.setVm vm').setFrames (.java (F0 m x.handlerPc ls [.ref q]) :: r) := by
    rw [State.pushFrame, State.setTop_of_frames _ hr, State.setFrames_setFrames, hr, List.tail_cons]
    show ((T.setFrames _).setVm vm').setFrames _ = _
    have e2 : ∀ F : List Frame, (T.setFrames F).setVm vm' = (T.setVm vm').setFrames F := fun _ => rfl
    rw [e2, State.setFrames_setFrames]
  rw [e1]
  exact a1
end XG
