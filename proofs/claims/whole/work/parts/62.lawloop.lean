def R_law : String := "CodeJudgeLaw"
def lw_P (b : Addr) (xs : List Int32) (args : Array Value) (s : State) : Prop := args = #[.ref b] ∧ s.IntsAt b xs ∧ xs.length ≤ 3584 ∧ (Jvm.Cond.and given_1 narrow_1).before args s = true
def lw_Q (_ : Array Value) (s : State) (o : Outcome) (t : State) : Prop := o = .returned (some (.int 1)) ∧ Framed s o t [] 601024 7293034
def lw_Z (below : List Frame) (a : Array Value) (s : State) : State → Prop := fun t => ∃ o, t.status = .running ∧ Ended t below o ∧ lw_Q a s o t
/-- the law's own end, with 1 on the stack, nothing written that was there before, its room as the claim has it -/
theorem lw_ret {p : Program} {l : Launch} {e : Env} {s : State} {m : MethodId} {below : List Frame} {meth : Method} {c : Code} {b : Nat} (hx : p.tables.exec = Jvm.exec) (hb : c.code = code) (hr : meth.sig.returnType = ret) (hlocks : meth.locks = false) {pc : Nat} {H : Heap} {ls : Array Slot} (hdg : decode code pc = .ok (.ireturn, 1)) : W p l e room_1 s m #[Value.ref b] below meth c H [] 601024 7293034 (lw_Z below #[Value.ref b] s) (F0 m pc ls [.int 1]) := by
  intro T hT X
  obtain ⟨fs, hret, hrun, hended, hW, hframe⟩ := X.leave (v := some (.int 1)) (hlocks := hlocks) (fun h => by rw [hr] at h; cases h)
  have hmeth' : T.vm.method? m = some meth := X.method'
  refine ⟨T.setFrames fs, ?_, .returned (some (.int 1)), hrun, hended, rfl, ⟨_, rfl⟩, hW, hframe⟩
  jvm_step X.here [X.here.top, hx, hb, hdg, hmeth', hr, ret, narrow_b1]
  (try refine ⟨rfl, ?_⟩); (try refine ⟨rfl, ?_⟩)
  first | (intro acts; rw [hret _ acts rfl rfl rfl]) | rw [hret _ _ rfl rfl rfl]
  exact Steps.refl _
/-- what holds at the law's entry: the machine, the code, the tables' words (any of lw_tbl by 'hts w (by decide +kernel)'), the script of L ints xs at the cell b, what the Statement gives of the start (any of its parts by flat_of_before) -/
def lw_At (p : Program) (s : State) (m : MethodId) (meth : Method) (c : Code) (b L : Nat) (xs : Nat → Int32) : Prop :=
  p.tables.exec = Jvm.exec ∧ c.code = code ∧ meth.sig.returnType = ret ∧ c.maxLocals = 7 ∧ s.vm.findClass R_law = some m.cls ∧ (∀ w ∈ lw_tbl, w.before #[Value.ref b] s = true) ∧ va_X b L xs s s.heap ∧ b < s.heap.size ∧ meth.locks = false ∧ (Jvm.Cond.and given_1 narrow_1).before #[Value.ref b] s = true
/-- what a relation between the class and the reference must give, so that the law holds -/
def lSim (Rel : Nat → SI → SF → SI → SF → Prop) : Prop := (∀ n I F J G, Rel n I F J G → Rel (n + 1) I F J G)
  ∧ (∀ n p1 p2 p3 p4 p5 p6 I F g J G, n < 512 → Rel n I F J G → wpl_method p1 p2 p3 p4 p5 p6 I F g J G (Rel (n + 1)))
  ∧ (∀ n p1 p2 p3 I F g J G, n < 512 → Rel n I F J G → wpl_add p1 p2 p3 I F g J G (Rel (n + 1)))
  ∧ (∀ n p1 p2 p3 I F g J G, n < 512 → Rel n I F J G → wpl_patch p1 p2 p3 I F g J G (Rel (n + 1)))
  ∧ (∀ n p1 I F g J G, n < 512 → Rel n I F J G → wpl_drop p1 I F g J G (Rel (n + 1)))
  ∧ (∀ n p1 I F g J G, n < 512 → Rel n I F J G → wpl_good p1 I F g J G (Rel (n + 1)))
  ∧ (∀ n p1 p2 I F g J G, n < 512 → Rel n I F J G → wpl_height p1 p2 I F g J G (Rel (n + 1)))
  ∧ (∀ n p1 p2 p3 p4 I F g J G, n < 512 → Rel n I F J G → wpl_type p1 p2 p3 p4 I F g J G (Rel (n + 1)))
  ∧ (∀ n p1 p2 p3 p4 p5 I F g J G, n < 512 → Rel n I F J G → wpl_start p1 p2 p3 p4 p5 I F g J G (Rel (n + 1)))
  ∧ (∀ n p1 I F g J G, n < 512 → Rel n I F J G → wpl_run p1 I F g J G (Rel (n + 1)))
  ∧ (∀ n p1 I F g J G, n < 512 → Rel n I F J G → wpl_state p1 I F g J G (Rel (n + 1)))
  ∧ (∀ n p1 p2 I F g J G, n < 512 → Rel n I F J G → wpl_value p1 p2 I F g J G (Rel (n + 1)))
  ∧ (∀ n p1 p2 I F g J G, n < 512 → Rel n I F J G → wpl_cell p1 p2 I F g J G (Rel (n + 1)))
  ∧ (∀ n p1 I F g J G, n < 512 → Rel n I F J G → wpl_output p1 I F g J G (Rel (n + 1)))
  ∧ (∀ n p1 I F g J G, n < 512 → Rel n I F J G → wpl_count p1 I F g J G (Rel (n + 1)))
theorem l7 {L : Nat} (hL : L ≤ 3584) : (Int32.ofNat L - 7).toInt = (L : Int) - 7 := by
  have h1 : (Int32.ofNat L).toInt = (L : Int) := nI_toInt (n := L) (by omega)
  rw [Int32.toInt_sub, h1]
  show ((L : Int) - 7).bmod (2 ^ 32) = (L : Int) - 7
  exact Int.bmod_eq_of_le (by omega) (by omega)
set_option maxHeartbeats 4000000 in
set_option maxRecDepth 100000 in
theorem ll_loop {p : Program} {l : Launch} {e : Env} {s : State} {m : MethodId} {below : List Frame} {meth : Method} {c : Code} {D : va_G} {a b : Nat → Nat} {cI cZ cQ cJ : ClassId} {bs L c0 s0 : Nat} {xs : Nat → Int32} (hlt : l.stackTraces = false) (hLC : LC p s m meth c D a b cI cZ cQ cJ bs L xs) (hr : meth.sig.returnType = ret) (hlocks : meth.locks = false) (hL : L ≤ 3584) (hc0 : c0 + 1539 ≤ 601024) (hs0 : s0 + 9234 ≤ 7293034) (Rel : Nat → SI → SF → SI → SF → Prop) (hR : lSim Rel) : ∀ (k n : Nat), 7 * n ≤ L → L < 7 * n + 7 * k + 7 → ∀ (I : SI) (F : SF) (g : Nat → Int64) (J : SI) (G : SF) (H : Heap) (locs : List Loc) (ls : Array Slot), lv_has ls 7 [(4, .int (nI (7 * n))), (0, .ref bs), (1, .ref (a 0)), (2, .ref (b 0)), (3, .ref (a 47))] → lSt D a b cI cZ cQ cJ I F g J G H → va_S (fun q => s.heap.size ≤ q) s.heap H locs → Rel n I F J G → W p l e room_1 s m #[Value.ref bs] below meth c H locs (c0 + 3 * n) (s0 + 18 * n) (lw_Z below #[Value.ref bs] s) (F0 m 23 ls []) := by
  intro k
  have hLC0 := hLC
  obtain ⟨hx, hb, hml, hown, hts, hK, hN, hZ, hX, hC, hLA, hXs, hbs⟩ := hLC
  have hbA : ¬ s.heap.size ≤ bs := Nat.not_le.mpr hbs
  obtain ⟨h0, h1, h2, h3, h4, h5, h6, h7, h8, h9, h10, h11, h12, h13, h14⟩ := hR
  induction k with
  | zero =>
    intro n hn hk I F g J G H locs ls hl hA hS hrel
    refine lv_iload hx hb dL_23 (lv_at hl 0 rfl) ?_
    refine lv_aload_n hx hb dL_25 rfl (lv_at hl 1 rfl) ?_
    refine va_slen hx hb hXs hbs hbA hS dL_26 ?_
    refine lv_bipush (v := 7) hx hb dL_27 (by decide) ?_
    refine lv_isub hx hb dL_29 ?_
    refine lv_icmp_gt (tgt := 1126) hx hb dL_30 (by decide) (fun h => ?_) (fun h => ?_)
    · refine lv_iconst (v := 1) hx hb dL_1126 (by decide) ?_
      refine va_forget hS.2.2 ?_
      refine W.widen (k := 601024) (n := 7293034) (by omega) (by omega) ?_
      exact lw_ret hx hb hr hlocks dL_1127
    · exfalso
      apply h
      rw [Int32.lt_iff_toInt_lt, l7 hL, nI_toInt (by omega)]
      omega
  | succ k ih =>
    intro n hn hk I F g J G H locs ls hl hA hS hrel
    refine lv_iload hx hb dL_23 (lv_at hl 0 rfl) ?_
    refine lv_aload_n hx hb dL_25 rfl (lv_at hl 1 rfl) ?_
    refine va_slen hx hb hXs hbs hbA hS dL_26 ?_
    refine lv_bipush (v := 7) hx hb dL_27 (by decide) ?_
    refine lv_isub hx hb dL_29 ?_
    refine lv_icmp_gt (tgt := 1126) hx hb dL_30 (by decide) (fun h => ?_) (fun h => ?_)
    · refine lv_iconst (v := 1) hx hb dL_1126 (by decide) ?_
      refine va_forget hS.2.2 ?_
      refine W.widen (k := 601024) (n := 7293034) (by omega) (by omega) ?_
      exact lw_ret hx hb hr hlocks dL_1127
    · have hn7 : 7 * n + 7 ≤ L := by
        rw [Int32.lt_iff_toInt_lt, l7 hL, nI_toInt (by omega)] at h
        omega
      have kk : ∀ (I : SI) (F : SF) (g : Nat → Int64) (J : SI) (G : SF) (H : Heap) (locs : List Loc) (ls : Array Slot), lv_has ls 7 [(4, .int (nI (7 * n))), (0, .ref bs), (1, .ref (a 0)), (2, .ref (b 0)), (3, .ref (a 47))] → lSt D a b cI cZ cQ cJ I F g J G H → va_S (fun q => s.heap.size ≤ q) s.heap H locs → Rel (n + 1) I F J G → W p l e room_1 s m #[Value.ref bs] below meth c H locs (c0 + 3 * n + 3) (s0 + 18 * n + 18) (lw_Z below #[Value.ref bs] s) (F0 m 1120 ls []) := by
        intro I F g J G H locs ls hl hA hS hrel
        refine lv_iinc (k := 0) (v := nI (7 * (n + 1))) (lv' := [(4, .int (nI (7 * (n + 1)))), (0, .ref bs), (1, .ref (a 0)), (2, .ref (b 0)), (3, .ref (a 47))]) hx hb dL_1120 hl rfl ?_ (by decide) rfl (fun ls hl => ?_)
        · show nI (7 * n) + nI 7 = nI (7 * n + 7)
          exact nI_add _ _
        · refine lv_goto (tgt := 23) hx hb dL_1123 (by decide) ?_
          exact ih (n + 1) (by omega) (by omega) I F g J G H locs ls hl hA hS hrel
      refine lv_aload_n hx hb dL_33 rfl (lv_at hl 1 rfl) ?_
      refine lv_iload hx hb dL_34 (lv_at hl 0 rfl) ?_
      refine va_sld hx hb hXs hbs hbA hS (vp_in_nI (by omega) (by omega)) dL_36 ?_
      refine lv_bipush (v := 15) hx hb dL_37 (by decide) ?_
      refine lv_iand hx hb dL_39 ?_
      refine sw_L_40 hx hb (fun _ => ?_) (fun _ => ?_) (fun _ => ?_) (fun _ => ?_) (fun _ => ?_) (fun _ => ?_) (fun _ => ?_) (fun _ => ?_) (fun _ => ?_) (fun _ => ?_) (fun _ => ?_) (fun _ => ?_) (fun _ => ?_) (fun _ => ?_) (fun _ => ?_)
      · exact lc_method hlt hLC0 hn7 hL (by omega) (by omega) (Rel (n + 1)) I F g J G H locs ls hl hA hS (h1 n _ _ _ _ _ _ I F g J G (by omega) hrel) kk
      · exact lc_add hlt hLC0 hn7 hL (by omega) (by omega) (Rel (n + 1)) I F g J G H locs ls hl hA hS (h2 n _ _ _ I F g J G (by omega) hrel) kk
      · exact lc_patch hlt hLC0 hn7 hL (by omega) (by omega) (Rel (n + 1)) I F g J G H locs ls hl hA hS (h3 n _ _ _ I F g J G (by omega) hrel) kk
      · exact lc_drop hlt hLC0 hn7 hL (by omega) (by omega) (Rel (n + 1)) I F g J G H locs ls hl hA hS (h4 n _ I F g J G (by omega) hrel) kk
      · exact lc_good hlt hLC0 hn7 hL (by omega) (by omega) (Rel (n + 1)) I F g J G H locs ls hl hA hS (h5 n _ I F g J G (by omega) hrel) kk
      · exact lc_height hlt hLC0 hn7 hL (by omega) (by omega) (Rel (n + 1)) I F g J G H locs ls hl hA hS (h6 n _ _ I F g J G (by omega) hrel) kk
      · exact lc_type hlt hLC0 hn7 hL (by omega) (by omega) (Rel (n + 1)) I F g J G H locs ls hl hA hS (h7 n _ _ _ _ I F g J G (by omega) hrel) kk
      · exact lc_start hlt hLC0 hn7 hL (by omega) (by omega) (Rel (n + 1)) I F g J G H locs ls hl hA hS (h8 n _ _ _ _ _ I F g J G (by omega) hrel) kk
      · exact lc_run hlt hLC0 hn7 hL (by omega) (by omega) (Rel (n + 1)) I F g J G H locs ls hl hA hS (h9 n _ I F g J G (by omega) hrel) kk
      · exact lc_state hlt hLC0 hn7 hL (by omega) (by omega) (Rel (n + 1)) I F g J G H locs ls hl hA hS (h10 n _ I F g J G (by omega) hrel) kk
      · exact lc_value hlt hLC0 hn7 hL (by omega) (by omega) (Rel (n + 1)) I F g J G H locs ls hl hA hS (h11 n _ _ I F g J G (by omega) hrel) kk
      · exact lc_cell hlt hLC0 hn7 hL (by omega) (by omega) (Rel (n + 1)) I F g J G H locs ls hl hA hS (h12 n _ _ I F g J G (by omega) hrel) kk
      · exact lc_output hlt hLC0 hn7 hL (by omega) (by omega) (Rel (n + 1)) I F g J G H locs ls hl hA hS (h13 n _ I F g J G (by omega) hrel) kk
      · exact lc_count hlt hLC0 hn7 hL (by omega) (by omega) (Rel (n + 1)) I F g J G H locs ls hl hA hS (h14 n _ I F g J G (by omega) hrel) kk
      · refine W.widen (k := c0 + 3 * n + 3) (n := s0 + 18 * n + 18) (by omega) (by omega) ?_
        exact kk I F g J G H locs ls hl hA hS (h0 n I F J G hrel)
