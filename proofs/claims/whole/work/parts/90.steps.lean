/-! a step of both machines -/
theorem stp_T {cw : SI → SF → (Int32 → SI → SF → Prop) → Prop} {mw : SI → SF → (SI → SF → Prop) → Prop} {A : am} {f : Nat} {y : aj_S} {T T' : Nat → Prop} (h : ∀ r, T r → T' r) (g : stp cw mw A f y T) : stp cw mw A f y T' := by
  obtain ⟨A', a, b, c, d, e, i, j⟩ := g
  exact ⟨A', a, b, c, d, h _ e, i, j⟩
section SO
variable {P : aj_P} {m f o : Nat} {v : Int32} {x y : aj_S} {A : am}
theorem do_loc {t : Nat} (hw : wfP P) (hm : m < 8) (ho : (o = 1 ∨ o = 2) ∧ t = 1 ∨ (o = 3 ∨ o = 4) ∧ t = 2) (he : aj_do P m o v x = some y) : ∃ k, k < 10 ∧ v = nI k ∧ ((o = 1 ∨ o = 3) → (aj_has k t x).bind (aj_push t) = some y) ∧ ((o = 2 ∨ o = 4) → (aj_pop t x).bind (aj_set k t) = some y) := by
  have hl := (hw m hm).2.2.2.2.2.1
  by_cases q : v < 0 ∨ P.1 m 4 ≤ v.toNatClampNeg
  · exfalso
    unfold aj_do at he
    by_cases w : o = 1 ∨ o = 3
    · rw [if_pos w, if_pos q] at he; cases he
    · rw [if_neg w, if_pos (by omega), if_pos q] at he; cases he
  · obtain ⟨k, hk, rfl⟩ := vp_in_of (show vp_in v (P.1 m 4) from q) (by omega)
    refine ⟨k, by omega, rfl, fun w => ?_, fun w => ?_⟩
    · rw [← ach_ld (o := o) hw hm hk (by omega), ch_do (by omega)]; exact he
    · rw [← ach_st (o := o) hw hm hk (by omega), ch_do (by omega)]; exact he
theorem st_ord (hf : A.1 0 = f + 1) (hb : aB A) (hH : aH A) (hY : aY (A.1 1) x A f) (hw : wfP P) (hm : m < 8) (h3 : A.1 3 < 2 ^ 30) (ho : o ≤ 25) (h23 : ¬ o = 23) (h24 : ¬ o = 24) (hnt : nt A f o) (he : aj_do P m o v x = some y) (y15 : y.1 ≤ 15) (hj : aj_jmp o = true → vp_in v 120) : stp (fun I F Post => wp_Ma_step_142 Post (nI o) v I F) (fun J G Post => mst (nI o) v J G Post) A f y (fun r => (r = A.2.1 1 f ∧ ¬ o = 14) ∨ (aj_jmp o = true ∧ r = v.toNatClampNeg)) := by
  by_cases q0 : o = 0
  · subst q0
    exact stp_T (fun r w => Or.inl ⟨w, by decide⟩) (st_0 hf hb hY he y15)
  by_cases q1 : o = 1
  · subst q1
    obtain ⟨k, hk, hv, e1, -⟩ := do_loc (t := 1) hw hm (by decide) he
    exact stp_T (fun r w => Or.inl ⟨w, by decide⟩) (st_1 hf hb hY hk hv (e1 (by decide)) y15)
  by_cases q2 : o = 2
  · subst q2
    obtain ⟨k, hk, hv, -, e1⟩ := do_loc (t := 1) hw hm (by decide) he
    exact stp_T (fun r w => Or.inl ⟨w, by decide⟩) (st_2 hf hb hY hk hv (e1 (by decide)) y15)
  by_cases q3 : o = 3
  · subst q3
    obtain ⟨k, hk, hv, e1, -⟩ := do_loc (t := 2) hw hm (by decide) he
    exact stp_T (fun r w => Or.inl ⟨w, by decide⟩) (st_3 hf hb hY hk hv (e1 (by decide)) y15)
  by_cases q4 : o = 4
  · subst q4
    obtain ⟨k, hk, hv, -, e1⟩ := do_loc (t := 2) hw hm (by decide) he
    exact stp_T (fun r w => Or.inl ⟨w, by decide⟩) (st_4 hf hb hY hk hv (e1 (by decide)) y15)
  by_cases q5 : o = 5
  · subst q5
    exact stp_T (fun r w => Or.inl ⟨w, by decide⟩) (st_5 hf hb hY he y15)
  by_cases q6 : o = 6
  · subst q6
    exact stp_T (fun r w => Or.inl ⟨w, by decide⟩) (st_6 hf hb hY he y15)
  by_cases q7 : o = 7
  · subst q7
    exact stp_T (fun r w => Or.inl ⟨w, by decide⟩) (st_7 hf hb hY he y15)
  by_cases q8 : o = 8
  · subst q8
    exact stp_T (fun r w => Or.inl ⟨w, by decide⟩) (st_8 hf hb hY (hnt.1 (by decide)) he y15)
  by_cases q9 : o = 9
  · subst q9
    exact stp_T (fun r w => Or.inl ⟨w, by decide⟩) (st_9 hf hb hY (hnt.1 (by decide)) he y15)
  by_cases q10 : o = 10
  · subst q10
    obtain ⟨n, n1, n2, n3⟩ := hnt.2.1 rfl
    exact stp_T (fun r w => Or.inl ⟨w, by decide⟩) (st_10 hf hb hY hH n1 n2 n3 he y15)
  by_cases q11 : o = 11
  · subst q11
    obtain ⟨n, n1, n2⟩ := hnt.2.2.1 rfl
    exact stp_T (fun r w => Or.inl ⟨w, by decide⟩) (st_11 hf hb hY hH n1 n2 he y15)
  by_cases q12 : o = 12
  · subst q12
    obtain ⟨a, j, n1, n2, n3, n4⟩ := hnt.2.2.2.1 rfl
    exact stp_T (fun r w => Or.inl ⟨w, by decide⟩) (st_12 hf hb hY hH n1 n2 n3 n4 he y15)
  by_cases q13 : o = 13
  · subst q13
    obtain ⟨a, j, n1, n2, n3, n4⟩ := hnt.2.2.2.2.1 rfl
    exact stp_T (fun r w => Or.inl ⟨w, by decide⟩) (st_13 hf hb hY hH n1 n2 n3 n4 he y15)
  by_cases q14 : o = 14
  · subst q14
    obtain ⟨q, hq, rfl⟩ := vp_in_of (hj (by decide)) (by decide)
    exact stp_T (fun r w => Or.inr ⟨by decide, by rw [w, cl (show q < 2 ^ 31 by omega)]⟩) (st_14 hf hb hY hq he)
  by_cases q15 : o = 15
  · subst q15
    obtain ⟨q, hq, rfl⟩ := vp_in_of (hj (by decide)) (by decide)
    exact stp_T (fun r w => w.elim (fun w => Or.inl ⟨w, by decide⟩) (fun w => Or.inr ⟨by decide, by rw [w, cl (show q < 2 ^ 31 by omega)]⟩)) (st_15 hf hb hY hq he)
  by_cases q16 : o = 16
  · subst q16
    obtain ⟨q, hq, rfl⟩ := vp_in_of (hj (by decide)) (by decide)
    exact stp_T (fun r w => w.elim (fun w => Or.inl ⟨w, by decide⟩) (fun w => Or.inr ⟨by decide, by rw [w, cl (show q < 2 ^ 31 by omega)]⟩)) (st_16 hf hb hY hq he)
  by_cases q17 : o = 17
  · subst q17
    obtain ⟨q, hq, rfl⟩ := vp_in_of (hj (by decide)) (by decide)
    exact stp_T (fun r w => w.elim (fun w => Or.inl ⟨w, by decide⟩) (fun w => Or.inr ⟨by decide, by rw [w, cl (show q < 2 ^ 31 by omega)]⟩)) (st_17 hf hb hY hq he)
  by_cases q18 : o = 18
  · subst q18
    exact stp_T (fun r w => Or.inl ⟨w, by decide⟩) (st_18 hf hb hY he y15)
  by_cases q19 : o = 19
  · subst q19
    obtain ⟨q, hq, rfl⟩ := vp_in_of (hj (by decide)) (by decide)
    exact stp_T (fun r w => w.elim (fun w => Or.inl ⟨w, by decide⟩) (fun w => Or.inr ⟨by decide, by rw [w, cl (show q < 2 ^ 31 by omega)]⟩)) (st_19 hf hb hY hq he)
  by_cases q20 : o = 20
  · subst q20
    exact stp_T (fun r w => Or.inl ⟨w, by decide⟩) (st_20 hf hb hY he y15)
  by_cases q21 : o = 21
  · subst q21
    exact stp_T (fun r w => Or.inl ⟨w, by decide⟩) (st_21 hf hb hY he y15)
  by_cases q22 : o = 22
  · subst q22
    exact stp_T (fun r w => Or.inl ⟨w, by decide⟩) (st_22 hf hb hY he y15)
  by_cases q25 : o = 25
  · subst q25
    exact stp_T (fun r w => Or.inl ⟨w, by decide⟩) (st_25 hf hb hY h3 he y15)
  omega
end SO
theorem nxt_1 {o p : Nat} {v : Int32} (h : ¬ o = 14) (h2 : ¬ o = 24) : nI (p + 1) ∈ aj_next o p v := by
  unfold aj_next
  rw [if_neg (show ¬ (o = 14 ∨ o = 24) from fun w => w.elim h h2)]
  exact List.mem_append_right _ List.mem_cons_self
theorem nxt_j {o p : Nat} {v : Int32} (h : aj_jmp o = true) : v ∈ aj_next o p v := by
  unfold aj_next
  rw [if_pos h]
  exact List.mem_append_left _ List.mem_cons_self
section SW
variable {P : aj_P} {f m p o : Nat} {v : Int32} {A : am} {I : SI} {F : SF} {J : SI} {G : SF} {K : aj_J} {x y : aj_S}
/-- the class's step up to the new place -/
theorem cs_go {Post : Int32 → SI → SF → Prop} (hw : wfP P) (hT : cT P I F) (hA : cB A I F) (hf : A.1 0 = f + 1) (f50 : f < 50) (hm0 : A.2.1 0 f = m) (hp0 : A.2.1 1 f = p) (ho0 : P.2.1 m p = o) (hv0 : P.2.2 m p = v) (m8 : m < 8) (hp : p < P.1 m 6) (ht : ∀ Q : Int32 → SI → SF → Prop, Q 0 I F → wp_Ma_troubleWith (nI o) I F Q) (h : (¬ nI o = 24 → ((¬ nI o = 23 → wp_Ma_step_142 Post (nI o) v (va_up (va_up I 2 0) 3 (I 3 + 1)) (va_up F 15 (upd (F 15) f (nI (p + 1))))) ∧ (nI o = 23 → (∃ P22 : Int32 → SI → SF → Prop, wp_CJ_isBelow v 8 (va_up (va_up I 2 0) 3 (I 3 + 1)) (va_up F 15 (upd (F 15) f (nI (p + 1)))) P22 ∧ ∀ r22 I22 F22, P22 r22 I22 F22 → ((r22 = 0 → wp_Ma_step_142 Post (nI o) v I22 F22) ∧ (¬ r22 = 0 → (vp_in v 8 ∧ (∃ P25 : SI → SF → Prop, wp_Fr_enterWith v (I22 (21 + 10 * v.toNatClampNeg)) I22 F22 P25 ∧ ∀ I25 F25, P25 I25 F25 → Post 1 I25 F25))))))) ) ∧ (nI o = 24 → (∃ P26 : SI → SF → Prop, wp_Ma_giveBack ((va_up (va_up I 2 0) 3 (I 3 + 1)) (23 + 10 * m)) (va_up (va_up I 2 0) 3 (I 3 + 1)) (va_up F 15 (upd (F 15) f (nI (p + 1)))) P26 ∧ ∀ I26 F26, P26 I26 F26 → Post 1 I26 F26))) : wp_Ma_step I F Post := by
  subst hm0 hp0 ho0 hv0
  have cm : (nI (A.2.1 0 f)).toNatClampNeg = A.2.1 0 f := cl (by omega)
  unfold wp_Ma_step
  simp only [c_um hA hf f50, ex3, ev_below, bi_y (show ¬ nI (A.2.1 0 f) < 0 ∧ nI (A.2.1 0 f) < 8 from ⟨nI_pos (by omega), nI_lt m8 (by decide)⟩), c_up hA hf f50, cm, c_oat hw hT m8 hp, c_nat hw hT m8 hp]
  refine z1 ⟨vp_in_nI m8 (by decide), _, ht _ ?_, fun _ _ _ q => q⟩
  refine y0 ?_
  have hI9 : (va_up (va_up I 2 0) 3 (I 3 + 1)) 9 = nI (f + 1) := by rw [← hf]; exact hA.1
  refine ⟨fun I1 F1 => I1 = va_up (va_up I 2 0) 3 (I 3 + 1) ∧ F1 = va_up F 15 (upd (F 15) f (nI (A.2.1 1 f + 1))), ?_, fun I1 F1 q => ?_⟩
  · unfold wp_Fr_go
    rw [hI9, nI_pred, cl (show f < 2 ^ 31 by omega), nI_1]
    exact ⟨fun z => absurd z (nI_nle (by omega) (by omega)), fun _ => ⟨vp_in_nI f50 (by decide), rfl, rfl⟩⟩
  · obtain ⟨rfl, rfl⟩ := q
    simp only [ev_below, ex3] at h
    exact h
theorem cs_tr {Post : Int32 → SI → SF → Prop} {r : Nat} (hw : wfP P) (hT : cT P I F) (hA : cB A I F) (hf : A.1 0 = f + 1) (f50 : f < 50) (hm0 : A.2.1 0 f = m) (hp0 : A.2.1 1 f = p) (ho0 : P.2.1 m p = o) (m8 : m < 8) (hp : p < P.1 m 6) (hr : ¬ r = 0) (hr7 : r ≤ 7) (ht : ∀ Q : Int32 → SI → SF → Prop, Q (nI r) I F → wp_Ma_troubleWith (nI o) I F Q) (h : Post 0 (va_up I 2 (nI r)) F) : wp_Ma_step I F Post := by
  subst hm0 hp0 ho0
  have cm : (nI (A.2.1 0 f)).toNatClampNeg = A.2.1 0 f := cl (by omega)
  unfold wp_Ma_step
  simp only [c_um hA hf f50, ex3, ev_below, bi_y (show ¬ nI (A.2.1 0 f) < 0 ∧ nI (A.2.1 0 f) < 8 from ⟨nI_pos (by omega), nI_lt m8 (by decide)⟩), c_up hA hf f50, cm, c_oat hw hT m8 hp, c_nat hw hT m8 hp]
  refine z1 ⟨vp_in_nI m8 (by decide), _, ht _ ?_, fun _ _ _ q => q⟩
  exact ⟨fun z => absurd z (nI_ne0 (by omega) (by omega)), fun _ => h⟩
/-- what is behind a step -/
def cZ (P : aj_P) (A : am) (I0 : SI) (I : SI) (F : SF) : Prop := cB A I F ∧ cT P I F ∧ I 1 = I0 1 ∧ I 2 = (if A.1 0 = 0 then 1 else 0) ∧ I 3 = I0 3 + 1 ∧ I 4 = A.2.2 4 0 0
def mZ (P : aj_P) (A : am) (J0 : SI) (J : SI) (G : SF) : Prop := mB A J G ∧ mT P G ∧ J 0 = J0 0 ∧ J 4 = J0 4 ∧ J 6 = 0 ∧ J 7 = J0 7 ∧ J 8 = A.2.2 4 0 0
/-- both do the step, and the run behind it is the same -/
def bst (P : aj_P) (A : am) (o : Nat) (v : Int32) : Prop := ∃ A', aS P A' ∧ A'.1 3 ≤ A.1 3 + 1 ∧ A'.1 4 = A.1 4 ∧ A'.1 5 = A.1 5 ∧ (∀ (I : SI) (F : SF), cB A I F → cT P I F → I 4 = A.2.2 4 0 0 → ∀ Post : Int32 → SI → SF → Prop, (∀ I' F', cZ P A' I I' F' → Post 1 I' F') → wp_Ma_step I F Post) ∧ ∀ (J : SI) (G : SF), mB A J G → mT P G → J 8 = A.2.2 4 0 0 → ∀ Post : SI → SF → Prop, (∀ J' G', mZ P A' J J' G' → Post J' G') → wp_MM_step (nI o) v (va_up J 6 0) G Post
theorem r_cb {q : Nat} (hA : cB A I F) : cB (aGo A f q) (va_up (va_up I 2 0) 3 (I 3 + 1)) (va_up F 15 (upd (F 15) f (nI q))) := cB_go (cB_I hA (fun i h8 _ => by rw [va_up_ne _ _ (by omega), va_up_ne _ _ (by omega)]))
theorem r_ct {q : Nat} (hT : cT P I F) : cT P (va_up (va_up I 2 0) 3 (I 3 + 1)) (va_up F 15 (upd (F 15) f (nI q))) := cT_kF (cT_f (i := 3) (by decide) (cT_f (i := 2) (by decide) hT)) ⟨fun _ _ => rfl, fun j hj => va_up_ne _ _ (by omega)⟩
theorem r_mb {q : Nat} (hB : mB A J G) : mB (aGo A f q) (va_up J 6 0) (va_up G 18 (upd (G 18) f (nI q))) := mB_go (mB_I hB rfl rfl rfl rfl)
theorem r_mt {q : Nat} (hT : mT P G) : mT P (va_up G 18 (upd (G 18) f (nI q))) := mT_g hT (fun j hj => va_up_ne _ _ (by omega))
theorem r_j5 (hB : mB A J G) (hf : A.1 0 = f + 1) : (va_up J 6 0) 5 - 1 = nI f := by
  show J 5 - 1 = _
  rw [hB.1, hf, nI_pred]
/-- the reference's step up to the new place -/
theorem ms_go {Post : SI → SF → Prop} {o : Int32} (hB : mB A J G) (hf : A.1 0 = f + 1) (f50 : f < 50) (hp0 : A.2.1 1 f = p) (h : mst o v (va_up J 6 0) (va_up G 18 (upd (G 18) f (nI (p + 1)))) Post) : wp_MM_step o v (va_up J 6 0) G Post := by
  have e18 : G 18 f = nI p := by rw [← hp0]; exact (hB.2.2.2.2.1 f (by omega)).2.1
  refine mst_of (by rw [r_j5 hB hf]; exact vp_in_nI f50 (by decide)) ?_
  rw [r_j5 hB hf, cl (show f < 2 ^ 31 by omega), e18, nI_1]
  exact h
/-- a return -/
theorem st_ret (hw : wfP P) (hS : aS P A) (hf : A.1 0 = f + 1) (f50 : f < 50) (hm0 : A.2.1 0 f = m) (hp0 : A.2.1 1 f = p) (ho0 : P.2.1 m p = 24) (hv0 : P.2.2 m p = v) (m8 : m < 8) (hp : p < P.1 m 6) (hY : aY (A.1 1) x A f) (hdo : aj_do P m 24 v x = some y) (ht : ∀ (I : SI) (F : SF), cB A I F → ∀ Q : Int32 → SI → SF → Prop, Q 0 I F → wp_Ma_troubleWith (nI 24) I F Q) : bst P A 24 v := by
  have hb := aS_B hw hS
  have hw3 := (hw m m8).2.2.2.1
  obtain ⟨w0, e1, e2⟩ := bind_s (show (if P.1 m 3 = 0 then some x else aj_pop (P.1 m 3) x).bind aj_nil = some y from hdo)
  have hgo : fr A (aGo A f (p + 1)) f := fr_go
  have hYg : aY ((aGo A f (p + 1)).1 1) x (aGo A f (p + 1)) f := hY
  have hbg : aB (aGo A f (p + 1)) := hb
  have hv50 := vp_in_nI f50 (show 50 < 2 ^ 31 by decide)
  have hvm := vp_in_nI m8 (show 8 < 2 ^ 31 by decide)
  -- what is left of the frames, and the value
  obtain ⟨C, r, hC, hbC, hrV, hrz, hcp, hmp⟩ : ∃ (C : am) (r : Int32), fr A C f ∧ aB C ∧ (¬ P.1 m 3 = 0 → aV (C.1 1) (P.1 m 3) r) ∧ C.1 3 = A.1 3 ∧ (∀ (I : SI) (F : SF), cB A I F → cT P I F → ∀ Post : Int32 → SI → SF → Prop, (∀ F2, cB C (va_up (va_up I 2 0) 3 (I 3 + 1)) F2 → cT P (va_up (va_up I 2 0) 3 (I 3 + 1)) F2 → wp_Ma_giveBack_15 (fun I F => Post 1 I F) (nI (P.1 m 3)) r (va_up (va_up I 2 0) 3 (I 3 + 1)) F2) → wp_Ma_step I F Post) ∧ (∀ (J : SI) (G : SF), mB A J G → mT P G → ∀ Post : SI → SF → Prop, (∀ G2, mB C (va_up J 6 0) G2 → mT P G2 → wp_MM_back_29 Post (nI m) r (va_up J 6 0) G2) → wp_MM_step (nI 24) v (va_up J 6 0) G Post) := by
    have hback : ∀ (J : SI) (G : SF), mB A J G → mT P G → ∀ (Post : SI → SF → Prop), ((nI (P.1 m 3) ≤ 0 → wp_MM_back_29 Post (nI m) 0 (va_up J 6 0) (va_up G 18 (upd (G 18) f (nI (p + 1))))) ∧ (¬ nI (P.1 m 3) ≤ 0 → ∃ P9 : Int32 → SI → SF → Prop, wp_MM_popValue (va_up J 6 0) (va_up G 18 (upd (G 18) f (nI (p + 1)))) P9 ∧ ∀ r9 I9 F9, P9 r9 I9 F9 → wp_MM_back_29 Post (nI m) r9 I9 F9)) → wp_MM_step (nI 24) v (va_up J 6 0) G Post := by
      intro J G hB hT Post h
      have hm17 : (va_up G 18 (upd (G 18) f (nI (p + 1)))) 17 f = nI m := by rw [← hm0]; exact (hB.2.2.2.2.1 f (by omega)).1
      refine ms_go hB hf f50 hp0 (ms_24 ⟨_, ?_, fun _ _ q => q⟩)
      unfold wp_MM_back
      rw [r_j5 hB hf, cl (show f < 2 ^ 31 by omega), hm17]
      refine ⟨hv50, fun x2 e2 => ?_⟩
      subst e2
      rw [cl (show m < 2 ^ 31 by omega), (r_mt (f := f) (q := p + 1) hT m m8).2.2.2.1]
      exact ⟨hvm, h⟩
    have hgive : ∀ (I : SI) (F : SF), cB A I F → cT P I F → ∀ Post : Int32 → SI → SF → Prop, wp_Ma_giveBack (nI (P.1 m 3)) (va_up (va_up I 2 0) 3 (I 3 + 1)) (va_up F 15 (upd (F 15) f (nI (p + 1)))) (fun I F => Post 1 I F) → wp_Ma_step I F Post := by
      intro I F hA hT Post h
      refine cs_go hw hT hA hf f50 hm0 hp0 ho0 hv0 m8 hp (ht I F hA) ⟨fun z => absurd rfl z, fun _ => ?_⟩
      rw [(r_ct (f := f) (q := p + 1) hT m m8).2.2.2.1]
      exact ⟨_, h, fun _ _ q => q⟩
    by_cases w : P.1 m 3 = 0
    · refine ⟨aGo A f (p + 1), 0, hgo, hbg, fun q => absurd w q, rfl, fun I F hA hT Post h => hgive I F hA hT Post ?_, fun J G hB hT Post h => hback J G hB hT Post ?_⟩
      · rw [w] at h ⊢
        exact ⟨fun z => absurd rfl z, fun _ => h _ (r_cb hA) (r_ct hT)⟩
      · rw [w]
        exact ⟨fun _ => h _ (r_mb hB) (r_mt hT), fun z => absurd (by decide) z⟩
    · rw [if_neg w] at e1
      obtain ⟨p1, p2, p3, -⟩ := aY_pop hYg e1
      have hnz : ¬ nI (P.1 m 3) = 0 := nI_ne0 (by omega) (by omega)
      refine ⟨aPop (aGo A f (p + 1)) f, aTop (aGo A f (p + 1)) f, fr_tr hgo fr_pop, aB_pop hbg, fun _ => p3.resolve_left w, rfl, fun I F hA hT Post h => hgive I F hA hT Post ⟨fun _ => ⟨_, cw_pop (r_cb hA) hf hbg p2 (fun F2 a2 k2 => h F2 a2 (cT_kF (r_ct hT) k2)), fun _ _ _ q => q⟩, fun z => absurd z hnz⟩, fun J G hB hT Post h => hback J G hB hT Post ⟨fun z => absurd z (nI_nle (by omega) (by omega)), fun _ => ⟨_, mw_pop (r_mb hB) hf hbg p2 (fun G2 a2 k2 => h G2 a2 (mT_kG (r_mt hT) k2)), fun _ _ _ q => q⟩⟩⟩
  have hfC : C.1 0 = f + 1 := hC.1.trans hf
  rcases Nat.eq_zero_or_pos f with hf0 | hf0
  · -- the last frame
    subst hf0
    refine ⟨(va_up C.1 0 0, C.2.1, va_up C.2.2 4 (va_up (C.2.2 4) 0 (va_up (C.2.2 4 0) 0 r))), ?_, ?_, hC.2.2.2.2.2.1, hC.2.2.2.2.2.2.1, fun I F hA hT I4 Post h => hcp I F hA hT Post (fun F2 a2 t2 => ?_), fun J G hB hT J8 Post h => hmp J G hB hT Post (fun G2 a2 t2 => ?_)⟩
    · obtain ⟨s1, s2, g, s3, s4⟩ := hS
      exact ⟨by show 0 ≤ 50; omega, hC.2.2.2.2.1 s2, g, s3, fun i hi => absurd hi (Nat.not_lt_zero _)⟩
    · show C.1 3 ≤ A.1 3 + 1
      omega
    · refine ⟨_, cw_leave a2 hfC f50 ?_, fun _ _ q => q⟩
      intro I3 a3 k3 i9
      refine ⟨fun z => absurd i9 z, fun _ => h _ _ ⟨cB_I (I := I3) a3 (fun i h8 _ => by rw [va_up_ne _ _ (by omega), va_up_ne _ _ (by omega)]), cT_f (i := 4) (by decide) (cT_f (i := 2) (by decide) (cT_kF t2 k3)), k3.1 1 (by omega), rfl, k3.1 3 (by omega), rfl⟩⟩
    · have e5 : (va_up J 6 0) 5 - 1 = 0 := r_j5 hB hf
      refine ⟨fun z => absurd e5 z, fun _ => ?_⟩
      rw [e5]
      exact h _ _ ⟨mB_I (J := va_up (va_up J 6 0) 5 0) (mB_leave a2 hfC) rfl rfl rfl rfl, t2, rfl, rfl, rfl, rfl, rfl⟩
  · obtain ⟨e, rfl⟩ : ∃ e, f = e + 1 := ⟨f - 1, by omega⟩
    have ne : ¬ nI (e + 1) = 0 := nI_ne0 (by omega) (by omega)
    have hbL : aB (aLeave C (e + 1)) := ⟨by show e + 1 ≤ 50; omega, fun i hi => hbC.2 i (by have : i < e + 1 := hi; omega)⟩
    have c4 : C.2.2 4 0 0 = A.2.2 4 0 0 := by rw [hC.2.2.2.2.2.2.2]
    have l5 : (aLeave C (e + 1)).1 0 = e + 1 := rfl
    by_cases w : P.1 m 3 = 0
    · refine ⟨aLeave C (e + 1), aS_ret0 hS hf hC (by rw [hm0]; exact w), ?_, hC.2.2.2.2.2.1, hC.2.2.2.2.2.2.1, fun I F hA hT I4 Post h => hcp I F hA hT Post (fun F2 a2 t2 => ?_), fun J G hB hT J8 Post h => hmp J G hB hT Post (fun G2 a2 t2 => ?_)⟩
      · show C.1 3 ≤ A.1 3 + 1
        omega
      · refine ⟨_, cw_leave a2 hfC f50 ?_, fun _ _ q => q⟩
        intro I3 a3 k3 i9
        rw [i9, w]
        refine ⟨fun _ => ⟨fun _ => h _ _ ⟨a3, cT_kF t2 k3, k3.1 1 (by omega), ?_, k3.1 3 (by omega), ?_⟩, fun z => absurd rfl z⟩, fun z => absurd z ne⟩
        · rw [l5, if_neg (by omega)]
          exact k3.1 2 (by omega)
        · exact ((k3.1 4 (by omega)).trans I4).trans c4.symm
      · unfold wp_MM_back_29
        rw [r_j5 hB hf, cl (show m < 2 ^ 31 by omega), (t2 m m8).2.2.2.1, w]
        refine ⟨fun _ => ⟨hvm, fun _ => h _ _ ⟨mB_leave a2 hfC, t2, rfl, rfl, rfl, rfl, J8.trans c4.symm⟩, fun z => absurd (by decide) z⟩, fun z => absurd z ne⟩
    · obtain ⟨r15, rS⟩ := aS_ret1 (r := r) hw hS hf hC (by rw [hm0]; exact w) (by rw [hm0]; exact hrV w)
      refine ⟨aPush (aLeave C (e + 1)) e r, rS, ?_, hC.2.2.2.2.2.1, hC.2.2.2.2.2.2.1, fun I F hA hT I4 Post h => hcp I F hA hT Post (fun F2 a2 t2 => ?_), fun J G hB hT J8 Post h => hmp J G hB hT Post (fun G2 a2 t2 => ?_)⟩
      · show C.1 3 ≤ A.1 3 + 1
        omega
      · refine ⟨_, cw_leave a2 hfC f50 ?_, fun _ _ q => q⟩
        intro I3 a3 k3 i9
        rw [i9]
        refine ⟨fun _ => ⟨fun z => absurd z (nI_ne0 (by omega) (by omega)), fun _ => ⟨_, cw_push (f := e) a3 l5 hbL r15 ?_, fun _ _ q => q⟩⟩, fun z => absurd z ne⟩
        intro F4 a4 k4
        refine h _ _ ⟨a4, cT_kF (cT_kF t2 k3) k4, k3.1 1 (by omega), ?_, k3.1 3 (by omega), ?_⟩
        · show I3 2 = if e + 1 = 0 then 1 else 0
          rw [if_neg (by omega)]
          exact k3.1 2 (by omega)
        · exact ((k3.1 4 (by omega)).trans I4).trans c4.symm
      · unfold wp_MM_back_29
        rw [r_j5 hB hf, cl (show m < 2 ^ 31 by omega), (t2 m m8).2.2.2.1]
        refine ⟨fun _ => ⟨hvm, fun z => absurd z (nI_nle (by omega) (by omega)), fun _ => ⟨_, mw_push (f := e) (mB_leave a2 hfC) l5 hbL r15 ?_, fun _ _ q => q⟩⟩, fun z => absurd z ne⟩
        intro G4 a4 k4
        exact h _ _ ⟨a4, mT_kG t2 k4, rfl, rfl, rfl, rfl, J8.trans c4.symm⟩
/-- a call -/
theorem st_cal (hw : wfP P) (hS : aS P A) (hf : A.1 0 = f + 1) (h50 : A.1 0 < 50) (hm0 : A.2.1 0 f = m) (hp0 : A.2.1 1 f = p) (ho0 : P.2.1 m p = 23) (hv0 : P.2.2 m p = v) (m8 : m < 8) (hp : p < P.1 m 6) (hK : aj_least P m K) (hx : K p = some x) (hY : aY (A.1 1) x A f) (hdo : aj_do P m 23 v x = some y) (hnx : vp_in (nI (p + 1)) (P.1 m 6) ∧ ∃ z, K (nI (p + 1)).toNatClampNeg = some z ∧ aj_le y z) (ht : ∀ (I : SI) (F : SF), cB A I F → ∀ Q : Int32 → SI → SF → Prop, Q 0 I F → wp_Ma_troubleWith (nI 23) I F Q) : bst P A 23 v := by
  have hb := aS_B hw hS
  have hs := s120 hw m8
  obtain ⟨hv8, hth⟩ := aj_call hK.1 hx ho0
  rw [hv0] at hv8 hth
  obtain ⟨k, hk, rfl⟩ := vp_in_of hv8 (by decide)
  have ck : (nI k).toNatClampNeg = k := cl (by omega)
  rw [ck] at hth
  rw [← ch_do (by decide), ach_23 hk hth] at hdo
  obtain ⟨w, hp1, hput⟩ := bind_s hdo
  obtain ⟨z, hz, hle⟩ := hnx.2
  rw [cl (show p + 1 < 2 ^ 31 by omega)] at hz
  obtain ⟨hn, -, -⟩ := aj_args_s _ hp1
  rw [hY.1] at hn
  have hn4 := (hw k hk).2.1
  have f50 : f < 50 := by omega
  have hSc : aS P (aCall (aGo A f (p + 1)) f k (P.1 k 1)) := aS_call hS hf (by omega) (by rw [hm0]; exact hK) hY (by rw [hp0]; exact hx) (by rw [hm0, hp0]; exact ho0) (by rw [hm0, hp0]; exact hv0) hk hp1 hput hz hle
  have hbg : aB (aGo A f (p + 1)) := hb
  obtain ⟨q1, q2, q3, q4, q5, q6⟩ := aArgs_0 (A := ((aOpen (aGo A f (p + 1)) k).1, va_up (aOpen (aGo A f (p + 1)) k).2.1 2 (va_up ((aOpen (aGo A f (p + 1)) k).2.1 2) f ((aGo A f (p + 1)).2.1 2 f - P.1 k 1)), (aOpen (aGo A f (p + 1)) k).2.2)) (f := f) (g := f + 1) (h := (aGo A f (p + 1)).2.1 2 f - P.1 k 1) (n := P.1 k 1)
  have e1 : (aCall (aGo A f (p + 1)) f k (P.1 k 1)).1 = va_up A.1 0 (A.1 0 + 1) := q1
  have e4 : (aCall (aGo A f (p + 1)) f k (P.1 k 1)).2.2 4 = A.2.2 4 := q4 4 (by decide)
  refine ⟨aCall (aGo A f (p + 1)) f k (P.1 k 1), hSc, by rw [e1]; exact Nat.le_succ _, by rw [e1]; rfl, by rw [e1]; rfl, fun I F hA hT I4 Post h => ?_, fun J G hB hT J8 Post h => ?_⟩
  · refine cs_go hw hT hA hf f50 hm0 hp0 ho0 hv0 m8 hp (ht I F hA) ⟨fun _ => ⟨fun z => absurd rfl z, fun _ => ?_⟩, fun z => absurd z (by decide)⟩
    simp only [ev_below, ex3, bi_y (show ¬ nI k < 0 ∧ nI k < 8 from ⟨nI_pos (by omega), nI_lt hk (by decide)⟩)]
    refine y1 ⟨hv8, ?_⟩
    rw [ck, (r_ct (f := f) (q := p + 1) hT k hk).2.1]
    refine ⟨_, cw_enterWith (r_cb hA) hf hbg (by omega) hn hn4 ?_, fun _ _ q => q⟩
    intro I2 F2 a2 k2
    refine h _ _ ⟨a2, cT_kF (r_ct hT) k2, k2.1 1 (by omega), ?_, k2.1 3 (by omega), ?_⟩
    · rw [e1, va_up_self, if_neg (by omega)]
      exact k2.1 2 (by omega)
    · rw [e4]
      exact (k2.1 4 (by omega)).trans I4
  · refine ms_go hB hf f50 hp0 (ms_23 ⟨_, mw_into (r_mb hB) hf hbg (by omega) hk (r_mt (f := f) (q := p + 1) hT k hk).2.1 hn hn4 ?_, fun _ _ q => q⟩)
    intro J2 G2 a2 k2
    refine h _ _ ⟨a2, mT_kG (r_mt hT) k2, k2.1 0 (by decide) (by decide) (by decide) (by decide), k2.1 4 (by decide) (by decide) (by decide) (by decide), k2.1 6 (by decide) (by decide) (by decide) (by decide), k2.1 7 (by decide) (by decide) (by decide) (by decide), ?_⟩
    rw [e4]
    exact (k2.1 8 (by decide) (by decide) (by decide) (by decide)).trans J8
/-- whatever the uppermost frame does next, both do -/
theorem st_all (hw : wfP P) (hS : aS P A) (hf : A.1 0 = f + 1) (h3 : A.1 3 < 2 ^ 30) (hm0 : A.2.1 0 f = m) (hp0 : A.2.1 1 f = p) : m < 8 ∧ p < 120 ∧ f < 50 ∧ ∃ r : Nat, r ≤ 7 ∧ (∀ (J : SI) (G : SF), mB A J G → ∀ Post : Int32 → SI → SF → Prop, Post (nI r) J G → wp_MM_troubleOf (nI (P.2.1 m p)) J G Post) ∧ (¬ r = 0 → ∀ (I : SI) (F : SF), cB A I F → cT P I F → ∀ Post : Int32 → SI → SF → Prop, Post 0 (va_up I 2 (nI r)) F → wp_Ma_step I F Post) ∧ (r = 0 → bst P A (P.2.1 m p) (P.2.2 m p)) := by
  have hb := aS_B hw hS
  have hH := hS.2.1
  obtain ⟨g, K, x, hg, gm, hK, hx, hY⟩ := aS_top hS hf
  obtain ⟨m8, mth, -⟩ := hg _ gm
  rw [hm0] at gm hK m8 mth
  rw [hp0] at hx
  have hp := (aj_bd hK hx).1
  have hs := s120 hw m8
  have f50 : f < 50 := by have := hb.1; omega
  have hp2 : p < 120 := by omega
  obtain ⟨-, y, hef, hnx⟩ := hK.1.1 _ x hx
  have ho : P.2.1 m p ≤ 25 := (hw _ m8).2.2.2.2.2.2.2.2 _ hp2
  generalize ho0 : P.2.1 m p = o at *
  generalize hv0 : P.2.2 m p = v at *
  obtain ⟨y2, hdo, hlim⟩ := bind_s hef
  have hy2 : y2 = y ∧ y.1 ≤ P.1 m 5 := by
    unfold aj_lim at hlim
    by_cases w : y2.1 ≤ P.1 m 5
    · rw [if_pos w] at hlim
      cases hlim
      exact ⟨rfl, w⟩
    · rw [if_neg w] at hlim; cases hlim
  obtain ⟨rfl, hl5⟩ := hy2
  have y15 : y2.1 ≤ 15 := Nat.le_trans hl5 (hw _ m8).2.2.2.2.2.2.1
  obtain ⟨r, r7, tc, tm, rn⟩ := tr_all hf hb hH hY ho hdo
  refine ⟨m8, hp2, f50, r, r7, tm, fun hr I F hA hT Post h => cs_tr hw hT hA hf f50 hm0 hp0 ho0 m8 hp hr r7 (tc I F hA) h, fun hr => ?_⟩
  subst hr
  have hnt := rn rfl
  have tc0 : ∀ (I : SI) (F : SF), cB A I F → ∀ Q : Int32 → SI → SF → Prop, Q 0 I F → wp_Ma_troubleWith (nI o) I F Q := tc
  by_cases h24 : o = 24
  · subst h24
    exact st_ret hw hS hf f50 hm0 hp0 ho0 hv0 m8 hp hY hdo tc0
  by_cases h23 : o = 23
  · subst h23
    exact st_cal hw hS hf (hnt.2.2.2.2.2 rfl) hm0 hp0 ho0 hv0 m8 hp hK hx hY hdo (hnx _ (nxt_1 (by decide) (by decide))) tc0
  have hj : aj_jmp o = true → vp_in v 120 := by
    intro hj
    obtain ⟨k, hk, e⟩ := vp_in_of (hnx _ (nxt_j hj)).1 (by omega)
    rw [e]
    exact vp_in_nI (by omega) (by decide)
  have hnt1 : nt (aGo A f (p + 1)) f o := hnt
  have epl : (aGo A f (p + 1)).2.1 1 f = p + 1 := va_up_self _ _ _
  obtain ⟨A', s3, s4, s5, s6, s7, s1, s2⟩ := st_ord (A := aGo A f (p + 1)) (f := f) (x := x) (y := y2) (P := P) (m := m) (o := o) (v := v) hf hb hH hY hw m8 h3 ho h23 h24 hnt1 hdo y15 hj
  have hfr : fr A A' f := fr_tr fr_go s3
  have hplace : ∃ z, K (A'.2.1 1 f) = some z ∧ aj_le y2 z := by
    rcases s7 with ⟨e, e14⟩ | ⟨e, e2⟩
    · obtain ⟨-, z, z1, z2⟩ := hnx _ (nxt_1 (p := p) (v := v) e14 h24)
      rw [cl (show p + 1 < 2 ^ 31 by omega)] at z1
      exact ⟨z, by rw [e, epl]; exact z1, z2⟩
    · obtain ⟨-, z, z1, z2⟩ := hnx _ (nxt_j (p := p) (v := v) e)
      exact ⟨z, by rw [e2]; exact z1, z2⟩
  obtain ⟨z, hz, hle⟩ := hplace
  have hS' : aS P A' := aS_next hS hf hfr (by rw [hm0]; exact hK) hz hle s5
  have n0 : ¬ A'.1 0 = 0 := by rw [hfr.1]; omega
  have e44 : A'.2.2 4 0 0 = A.2.2 4 0 0 := by rw [hfr.2.2.2.2.2.2.2]
  have c23 : ¬ nI o = 23 := fun w => h23 ((nI_eq (by omega) (by decide)).mp w)
  have c24 : ¬ nI o = 24 := fun w => h24 ((nI_eq (by omega) (by decide)).mp w)
  refine ⟨A', hS', s6, hfr.2.2.2.2.2.1, hfr.2.2.2.2.2.2.1, fun I F hA hT I4 Post h => ?_, fun J G hB hT J8 Post h => ?_⟩
  · refine cs_go hw hT hA hf f50 hm0 hp0 ho0 hv0 m8 hp (tc0 I F hA) ⟨fun _ => ⟨fun _ => s1 _ _ (r_cb hA) Post (fun I2 F2 a2 k2 => ?_), fun z => absurd z c23⟩, fun z => absurd z c24⟩
    refine h _ _ ⟨a2, cT_kF (r_ct hT) k2, k2.1 1 (by omega), ?_, k2.1 3 (by omega), ?_⟩
    · rw [if_neg n0]
      exact k2.1 2 (by omega)
    · rw [e44]
      exact (k2.1 4 (by omega)).trans I4
  · refine ms_go hB hf f50 hp0 (s2 _ _ (r_mb hB) Post (fun J2 G2 a2 k2 => ?_))
    refine h _ _ ⟨a2, mT_kG (r_mt hT) k2, k2.1 0 (by decide) (by decide) (by decide) (by decide), k2.1 4 (by decide) (by decide) (by decide) (by decide), k2.1 6 (by decide) (by decide) (by decide) (by decide), k2.1 7 (by decide) (by decide) (by decide) (by decide), ?_⟩
    rw [e44]
    exact (k2.1 8 (by decide) (by decide) (by decide) (by decide)).trans J8
end SW
