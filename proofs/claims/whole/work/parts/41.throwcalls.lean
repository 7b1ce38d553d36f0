/-! calls of methods that return or throw -/
section XU
variable {p : Program} {l : Launch} {e : Env} {R : Room} {s : State} {m : MethodId} {args : Array Value} {below : List Frame} {meth : Method} {c : Code} {H : Heap} {locs : List Loc} {cells slots : Nat} {Q : State → Prop}
def xt_Run (p : Program) (l : Launch) (e : Env) (R : Room) (s : State) (m : MethodId) (args : Array Value) (below : List Frame) (meth : Method) (c : Code) (H : Heap) (locs : List Loc) (cells slots mc ms : Nat) (g : JFrame) (rest : List Value) (Qa : State → Outcome → State → Prop) (XC : Nat → State → State → Prop) (free : Addr → Prop) : Prop :=
  ∀ T : State, T.heap = H → Stand p l e R s m args below meth c T locs cells slots →
    (∃ (v : Option Value) (st₀ t T' : State) (L : List Loc), st₀.heap = H ∧ Stand p l e R s m args below meth c T' (locs ++ L) (cells + mc) (slots + ms) ∧ (∀ q ∈ L, free q.base) ∧ T'.heap = t.heap ∧ Qa st₀ (.returned v) t ∧ Goes p e below T g T' { g with pc := g.pc + 3, stack := v.toList ++ rest }) ∨
    (∃ (q : Addr) (k : Nat) (st₀ t T' : State) (L : List Loc), st₀.heap = H ∧ Stand p l e R s m args below meth c T' (locs ++ L) (cells + mc) (slots + ms) ∧ (∀ z ∈ L, free z.base) ∧ T'.heap = t.heap ∧ xt_O k s q t.heap ∧ XC k st₀ t ∧ Steps p.tables e below (T.setTop g) ((T'.setTop { g with stack := rest }).pushFrame (.throwing q)))
variable {y : MethodName} {bytes cc : ByteArray} {maxL nL mc ms n index : Nat} {ret : Option FieldType} {ws : List Cond} {rm : Room} {Pc : Array Value → State → Prop} {Qc : Array Value → State → Outcome → State → Prop} {XC : Nat → State → State → Prop} {free : Addr → Prop} {Ts : List Cond} {own C : String} {b : Addr} {As rest : List Value} {g : JFrame}
theorem xt_runV (S : CallFix p m c cc nL s args Ts own) (hM : xt_Met l y ws rm Pc Qc XC mc ms free) (cw : CallW R s args own C index y bytes maxL ret ws rm mc ms n) (hp : PreV s H C b Pc As)
    (hg : g.method = m) (hn : As.length = n) (hsize : g.locals.size = nL) (hstack : g.stack = As.reverse ++ .ref b :: rest) (hW : 2 * g.monitorRoom + (rest.map fun v => v.category).sum ≤ 8) (hdg : decode cc g.pc = .ok (.invokevirtual index, 3)) (hf : cells + mc ≤ R.cells ∧ slots + ms ≤ R.slots) :
    xt_Run p l e R s m args below meth c H locs cells slots mc ms g rest (Qc (Value.ref b :: As).toArray) XC free := by
  obtain ⟨⟨hrc, hrs, hfr, hlo, hws, hcw, hcode, hini, hy, hlen, hl⟩, hin, hse⟩ := cw
  obtain ⟨hx, hb, hml, ho, -⟩ := S
  obtain ⟨hbl, ⟨cellB, hcB, hoB, hclB⟩, hPc⟩ := hp
  intro T hT X
  obtain ⟨mk, methM, hnamed, hmethM, hstM, habM⟩ := Cond.instanceMethod_spec hin
  obtain ⟨methM', cM, hmethM', -, -, -, -, -, -, hsigM⟩ := Cond.code_spec hnamed hcode
  cases hmethM.symm.trans hmethM'
  obtain ⟨c2, r2, m2, q1, q2, q3, q4, kP, hkP, hkPi⟩ := Cond.selects_spec hse
  cases hclB.symm.trans q1
  cases (State.methodFound?_of_named hnamed hy).symm.trans q2
  cases hnamed.symm.trans q3
  have hselP : selectMethod e.platform s.vm cellB.cls mk = .method mk := by rw [Launch.admits_selectMethod X.admits]; exact q4
  obtain ⟨vm₁, X₁, hstep₁⟩ := X.invokevirtual hx ho hl hnamed hmethM hstM hkP hkPi hy (a := b) (cell := cellB) (by rw [hT]; exact hcB) (fun z h => by rw [h] at hoB; cases hoB) hselP hmethM habM hkP hkPi (g := g) hg (argsL := As) (rest := rest) (hn.trans (hlen _ hsigM)) hstack (by rw [hb]; exact hdg)
  have hback := xt_back (bytes := bytes) (maxL := maxL) (ret := ret) hM hrc hrs hfr hlo hws hcw (fun a' U hW => word_at hW (Or.inl (by first | rfl | simp [Cond.onTables, Cond.keeps, Cond.steady])) hini) X₁ (g := { g with stack := rest }) (mk := mk) (a := (Value.ref b :: As).toArray) hg (hsize.trans hml.symm) (by rw [hb]; exact hdg) hW (X₁.named hnamed) hf (hbl _ _ _ _ (hPc (T.setVm vm₁) hT X₁.warmed))
  rcases hback with ⟨v, t, T', L, X', hL, e1, e2, hq, st⟩ | ⟨q, k, t, T', L, X', hL, e1, e2, ⟨ce, o1, o2, o3⟩, hXC, st⟩
  · exact Or.inl ⟨v, (T.setVm vm₁).calling { g with stack := rest } mk (Value.ref b :: As).toArray, t, T', L, hT, X', hL, e1, hq, fun target h => hstep₁ _ fun acts => by rw [doInvoke_state]; exact st.trans h⟩
  · refine Or.inr ⟨q, k, (T.setVm vm₁).calling { g with stack := rest } mk (Value.ref b :: As).toArray, t, T', L, hT, X', hL, e1, ⟨ce, o1, o2, ?_⟩, hXC, hstep₁ _ fun acts => by rw [doInvoke_state]; exact st⟩
    have h9 : vm₁.findClass (xe k) = some ce.cls := o3
    have hal : s.vm.Alike vm₁ := X₁.warmed.alike
    rw [hal.findClass] at h9
    exact h9
end XU
/-- what a contract of a method that may throw starts from -/
def cX (D : va_G) (a : Nat → Nat) (cI cZ cQ : ClassId) (I : SI) (F : SF) (sz : Nat) (U : State) : Prop := cP D a cI cZ cQ I F sz U ∧ xZ (xA 47 a sz) U U.heap
theorem cX_bl {D : va_G} {a : Nat → Nat} {cI cZ cQ : ClassId} {I : SI} {F : SF} {sz : Nat} {av : List Value} : FrameBlind (va_Pc av (cX D a cI cZ cQ I F sz)) := fun x U g mk q => by
  obtain ⟨q0, q1, q2⟩ := q
  have h := cP_bl (av := av) x U g mk ⟨q0, q1⟩
  exact ⟨h.1, h.2, xZ_moved (u := U) (U := U.calling g mk x) (Vm.Alike.refl U.vm) q2⟩
theorem cX_at {D : va_G} {a : Nat → Nat} {cI cZ cQ : ClassId} {I : SI} {F : SF} {av : List Value} {s : State} {H : Heap} {locs : List Loc} (hP : va_P D vwCl (cw a cI cZ cQ I F) H) (hK : va_K D vwCl [(cI, .int), (cZ, .boolean), (cQ, .object "CodeJudge$Method")] s) (hN : nw s) (hZ : xZ (xA 47 a s.heap.size) s s.heap) (hS : va_S (xA 47 a s.heap.size) s.heap H locs) : ∀ U : State, U.heap = H → s.WarmedH U.vm → va_Pc av (cX D a cI cZ cQ I F H.size) av.toArray U := fun U hU hW => by
  have h := cP_at (av := av) hP hK hN U hU hW
  refine ⟨h.1, h.2, ?_⟩
  rw [hU]
  refine xZ_less (xZ_moved hW.alike (xZ_kept hZ hS.2.1)) (fun q hq hA => ?_)
  rcases hA with h1 | h1
  · exact Or.inl h1
  · omega
/-- where it threw -/
abbrev cXC (D : va_G) (a : Nat → Nat) (cI cZ cQ : ClassId) (PX : Nat → SI → SF → Prop) (sz : Nat) : Nat → State → State → Prop := fun k st t => ∃ u : SI × SF, PX k u.1 u.2 ∧ va_P D vwCl (cw a cI cZ cQ u.1 u.2) t.heap ∧ va_F (xA 47 a sz) st t
section XV
variable {p : Program} {l : Launch} {e : Env} {R : Room} {s : State} {m : MethodId} {args : Array Value} {below : List Frame} {meth : Method} {c : Code} {H : Heap} {locs : List Loc} {cells slots : Nat} {Q : State → Prop}
variable {pc : Nat} {ls : Array Slot} {rest st0 : List Value} {av : Array Value} {H0 : Heap} {D : va_G} {a : Nat → Nat} {cI cZ cQ : ClassId} {mc ms : Nat}
/-- what changed since the beginning, behind a call -/
theorem xs_call {st t : State} {H1 : Heap} {L : List Loc} (hS : va_S (xA 47 a H0.size) H0 H locs) (h0 : st.heap = H) (h1 : H1 = t.heap) (hF : va_F (xA 47 a H.size) st t) (hL : ∀ z ∈ L, xA 47 a H.size z.base) : va_S (xA 47 a H0.size) H0 H1 (locs ++ L) := by
  obtain ⟨z1, z2⟩ := hF
  rw [h0] at z1 z2
  subst h1
  refine ⟨Nat.le_trans hS.1 z1, fun q h1 h2 => ?_, fun q hq => ?_⟩
  · rw [z2 q (Nat.lt_of_lt_of_le h1 hS.1) (fun h => h2 (xA_up h hS.1))]
    exact hS.2.1 q h1 h2
  · rcases List.mem_append.mp hq with h | h
    · exact hS.2.2 q h
    · exact xA_up (hL q h) hS.1
theorem cx_i {P1 : Int32 → SI → SF → Prop} {PX : Nat → SI → SF → Prop} (hr : xt_Run p l e R s m args below meth c H locs cells slots mc ms (F0 m pc ls st0) rest (va_Qi (fun r (u : SI × SF) => P1 r u.1 u.2) (fun u t => va_P D vwCl (cw a cI cZ cQ u.1 u.2) t.heap) (xA 47 a H.size) av) (cXC D a cI cZ cQ PX H.size) (xA 47 a H.size)) (hS : va_S (xA 47 a H0.size) H0 H locs)
    (kx : ∀ (k : Nat) (q : Addr) (I : SI) (F : SF) (H1 : Heap) (locs1 : List Loc), va_P D vwCl (cw a cI cZ cQ I F) H1 → PX k I F → va_S (xA 47 a H0.size) H0 H1 locs1 → xt_O k s q H1 → xt_W p l e R s m args below meth c H1 locs1 (cells + mc) (slots + ms) Q (F0 m pc ls rest) q)
    (kk : ∀ (r : Int32) (I : SI) (F : SF) (H1 : Heap) (locs1 : List Loc), va_P D vwCl (cw a cI cZ cQ I F) H1 → P1 r I F → va_S (xA 47 a H0.size) H0 H1 locs1 → W p l e R s m args below meth c H1 locs1 (cells + mc) (slots + ms) Q (F0 m (pc + 3) ls (.int r :: rest))) : W p l e R s m args below meth c H locs cells slots Q (F0 m pc ls st0) := by
  intro T hT X
  rcases hr T hT X with ⟨v, st₀, t, T', L, h0, X', hL, e1, ⟨⟨r, u, hv, hp, hb⟩, hF⟩, st⟩ | ⟨q, k, st₀, t, T', L, h0, X', hL, e1, hO, ⟨u, hp, hb, hF⟩, st⟩
  · cases hv
    obtain ⟨t2, a1, b1⟩ := kk r u.1 u.2 T'.heap (locs ++ L) (by rw [e1]; exact hb) hp (xs_call hS h0 e1 hF hL) T' rfl X'
    exact ⟨t2, st t2 a1, b1⟩
  · obtain ⟨t2, a1, b1⟩ := kx k q u.1 u.2 T'.heap (locs ++ L) (by rw [e1]; exact hb) hp (xs_call hS h0 e1 hF hL) (by rw [e1]; exact hO) T' rfl X'
    exact ⟨t2, st.trans a1, b1⟩
theorem cx_v {P1 : SI → SF → Prop} {PX : Nat → SI → SF → Prop} (hr : xt_Run p l e R s m args below meth c H locs cells slots mc ms (F0 m pc ls st0) rest (va_Qv (fun (u : SI × SF) => P1 u.1 u.2) (fun u t => va_P D vwCl (cw a cI cZ cQ u.1 u.2) t.heap) (xA 47 a H.size) av) (cXC D a cI cZ cQ PX H.size) (xA 47 a H.size)) (hS : va_S (xA 47 a H0.size) H0 H locs)
    (kx : ∀ (k : Nat) (q : Addr) (I : SI) (F : SF) (H1 : Heap) (locs1 : List Loc), va_P D vwCl (cw a cI cZ cQ I F) H1 → PX k I F → va_S (xA 47 a H0.size) H0 H1 locs1 → xt_O k s q H1 → xt_W p l e R s m args below meth c H1 locs1 (cells + mc) (slots + ms) Q (F0 m pc ls rest) q)
    (kk : ∀ (I : SI) (F : SF) (H1 : Heap) (locs1 : List Loc), va_P D vwCl (cw a cI cZ cQ I F) H1 → P1 I F → va_S (xA 47 a H0.size) H0 H1 locs1 → W p l e R s m args below meth c H1 locs1 (cells + mc) (slots + ms) Q (F0 m (pc + 3) ls rest)) : W p l e R s m args below meth c H locs cells slots Q (F0 m pc ls st0) := by
  intro T hT X
  rcases hr T hT X with ⟨v, st₀, t, T', L, h0, X', hL, e1, ⟨⟨u, hv, hp, hb⟩, hF⟩, st⟩ | ⟨q, k, st₀, t, T', L, h0, X', hL, e1, hO, ⟨u, hp, hb, hF⟩, st⟩
  · cases hv
    obtain ⟨t2, a1, b1⟩ := kk u.1 u.2 T'.heap (locs ++ L) (by rw [e1]; exact hb) hp (xs_call hS h0 e1 hF hL) T' rfl X'
    exact ⟨t2, st t2 a1, b1⟩
  · obtain ⟨t2, a1, b1⟩ := kx k q u.1 u.2 T'.heap (locs ++ L) (by rw [e1]; exact hb) hp (xs_call hS h0 e1 hF hL) (by rw [e1]; exact hO) T' rfl X'
    exact ⟨t2, st.trans a1, b1⟩
/-- .. that answers a Method -/
theorem cx_r {P1 : Nat → SI → SF → Prop} {PX : Nat → SI → SF → Prop} (hr : xt_Run p l e R s m args below meth c H locs cells slots mc ms (F0 m pc ls st0) rest (va_Qr (fun (u : Nat × SI × SF) => u.1 < 8 ∧ P1 u.1 u.2.1 u.2.2) (fun u ad t => ad = a (23 + 3 * u.1) ∧ va_P D vwCl (cw a cI cZ cQ u.2.1 u.2.2) t.heap) (xA 47 a H.size) av) (cXC D a cI cZ cQ PX H.size) (xA 47 a H.size)) (hS : va_S (xA 47 a H0.size) H0 H locs)
    (kx : ∀ (k : Nat) (q : Addr) (I : SI) (F : SF) (H1 : Heap) (locs1 : List Loc), va_P D vwCl (cw a cI cZ cQ I F) H1 → PX k I F → va_S (xA 47 a H0.size) H0 H1 locs1 → xt_O k s q H1 → xt_W p l e R s m args below meth c H1 locs1 (cells + mc) (slots + ms) Q (F0 m pc ls rest) q)
    (kk : ∀ (r : Nat) (I : SI) (F : SF) (H1 : Heap) (locs1 : List Loc), r < 8 → va_P D vwCl (cw a cI cZ cQ I F) H1 → P1 r I F → va_S (xA 47 a H0.size) H0 H1 locs1 → W p l e R s m args below meth c H1 locs1 (cells + mc) (slots + ms) Q (F0 m (pc + 3) ls (.ref (a (23 + 3 * r)) :: rest))) : W p l e R s m args below meth c H locs cells slots Q (F0 m pc ls st0) := by
  intro T hT X
  rcases hr T hT X with ⟨v, st₀, t, T', L, h0, X', hL, e1, ⟨⟨u, ad, hv, hp, hd, hb⟩, hF⟩, st⟩ | ⟨q, k, st₀, t, T', L, h0, X', hL, e1, hO, ⟨u, hp, hb, hF⟩, st⟩
  · cases hv
    subst hd
    obtain ⟨t2, a1, b1⟩ := kk u.1 u.2.1 u.2.2 T'.heap (locs ++ L) hp.1 (by rw [e1]; exact hb) hp.2 (xs_call hS h0 e1 hF hL) T' rfl X'
    exact ⟨t2, st t2 a1, b1⟩
  · obtain ⟨t2, a1, b1⟩ := kx k q u.1 u.2 T'.heap (locs ++ L) (by rw [e1]; exact hb) hp (xs_call hS h0 e1 hF hL) (by rw [e1]; exact hO) T' rfl X'
    exact ⟨t2, st.trans a1, b1⟩
end XV
