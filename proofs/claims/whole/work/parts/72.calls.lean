/-! method, add, patch, drop -/
theorem lt0 {x : Int32} : ¬ x < 0 ↔ 0 ≤ x := Int32.not_lt
/-- an index below a bound, or not -/
theorem in_nI {x : Int32} {b : Int32} {n : Nat} (hb : b = nI n) (hn : n < 2 ^ 31) (h : ¬ x < 0 ∧ x < b) : ∃ k, k < n ∧ x = nI k := by
  obtain ⟨j, h1, rfl⟩ := nI_of h.1
  subst hb
  exact ⟨j, (nI_ltI h1 hn).mp h.2, rfl⟩
theorem bi_1 {p : Prop} (h : ¬ bi p = 0) : p := by
  by_cases q : p
  · exact q
  · exact absurd (bi_n q) h
theorem w_b {x b c : Int32} {n : Nat} (hb : b = nI n) (hc : c = nI (n + 1)) (hn : n + 1 < 2 ^ 31) (h : 0 ≤ x ∧ x ≤ b) : ¬ x < 0 ∧ x < c := by
  obtain ⟨j, h1, rfl⟩ := nI_of (lt0.mpr h.1)
  subst hb hc
  exact ⟨lt0.mpr h.1, (nI_ltI h1 hn).mpr (by have := (nI_leI h1 (by omega)).mp h.2; omega)⟩
theorem b_w {x b c : Int32} {n : Nat} (hb : b = nI n) (hc : c = nI (n + 1)) (hn : n + 1 < 2 ^ 31) (h : ¬ x < 0 ∧ x < c) : 0 ≤ x ∧ x ≤ b := by
  obtain ⟨j, h1, rfl⟩ := nI_of h.1
  subst hb hc
  exact ⟨lt0.mp h.1, (nI_leI h1 (by omega)).mpr (by have := (nI_ltI h1 hn).mp h.2; omega)⟩
theorem cl {n : Nat} (h : n < 2 ^ 31) : (nI n).toNatClampNeg = n := nI_clamp h
theorem cT_f {P : aj_P} {I : SI} {F : SF} {i : Nat} {v : Int32} (hi : i < 20) (h : cT P I F) : cT P (va_up I i v) F := by
  intro k hk
  obtain ⟨a0, a1, a2, a3, a4, a5, a6, a7⟩ := h k hk
  simp only [va_up]
  exact ⟨by rw [if_neg (by omega)]; exact a0, by rw [if_neg (by omega)]; exact a1, by rw [if_neg (by omega)]; exact a2, by rw [if_neg (by omega)]; exact a3, by rw [if_neg (by omega)]; exact a4, by rw [if_neg (by omega)]; exact a5, by rw [if_neg (by omega)]; exact a6, a7⟩
def pM (P : aj_P) (k a b c d e : Nat) : aj_P := (va_up P.1 k (fun f => if f = 0 then 1 else if f = 1 then a else if f = 2 then b else if f = 3 then c else if f = 4 then d else if f = 5 then e else 0), P.2)
theorem cT_M {P : aj_P} {I : SI} {F : SF} {k a b c d e : Nat} (hk : k < 8) (h : cT P I F) : cT (pM P k a b c d e) (va_up (va_up (va_up (va_up (va_up (va_up (va_up I (20 + 10 * k) 1) (21 + 10 * k) (nI a)) (22 + 10 * k) (nI b)) (23 + 10 * k) (nI c)) (24 + 10 * k) (nI d)) (25 + 10 * k) (nI e)) (26 + 10 * k) 0) F := by
  intro j hj
  obtain ⟨a0, a1, a2, a3, a4, a5, a6, a7⟩ := h j hj
  by_cases q : j = k
  · subst q
    simp only [pM, va_up]
    refine ⟨?_, ?_, ?_, ?_, ?_, ?_, ?_, a7⟩
    all_goals (repeat first | rw [if_pos (by omega)] | rw [if_neg (by omega)])
    all_goals rfl
  · simp only [pM, va_up]
    refine ⟨?_, ?_, ?_, ?_, ?_, ?_, ?_, a7⟩
    all_goals (repeat first | rw [if_neg (by omega)] | rw [if_pos (by omega)])
    all_goals assumption
theorem mT_M {P : aj_P} {G : SF} {k a b c d e : Nat} (hk : k < 8) (h : mT P G) : mT (pM P k a b c d e) (va_up (va_up (va_up (va_up (va_up (va_up (va_up G 1 (upd (G 1) k 1)) 2 (upd (G 2) k (nI a))) 3 (upd (G 3) k (nI b))) 4 (upd (G 4) k (nI c))) 5 (upd (G 5) k (nI d))) 6 (upd (G 6) k (nI e))) 7 (upd (G 7) k 0)) := by
  intro j hj
  obtain ⟨a0, a1, a2, a3, a4, a5, a6, a7⟩ := h j hj
  by_cases q : j = k
  · subst q
    refine ⟨?_, ?_, ?_, ?_, ?_, ?_, fun _ => ?_, a7⟩
    all_goals simp [pM, va_up, upd]
    all_goals rfl
  · refine ⟨?_, ?_, ?_, ?_, ?_, ?_, ?_, a7⟩
    all_goals simp [pM, va_up, upd, q]
    all_goals assumption
theorem wf_M {P : aj_P} {k a b c d e : Nat} (h : wfP P) (h1 : a ≤ 4) (h2 : b < 2 ^ a) (h3 : c ≤ 2) (h4 : a ≤ d) (h5 : d ≤ 10) (h6 : e ≤ 15) : wfP (pM P k a b c d e) := by
  intro j hj
  obtain ⟨a0, a1, a2, a3, a4, a5, a6, a7, a8⟩ := h j hj
  by_cases q : j = k
  · subst q
    simp only [pM, va_up]
    refine ⟨?_, ?_, ?_, ?_, ?_, ?_, ?_, ?_, a8⟩
    all_goals simp
    all_goals assumption
  · simp only [pM, va_up, if_neg q]
    exact ⟨a0, a1, a2, a3, a4, a5, a6, a7, a8⟩
theorem failI {wL : (Int32 → SI → SF → (Nat → Int64) → Prop) → Prop} {wM : (Int32 → SI → SF → Prop) → Prop} {n : Nat} {I : SI} {F : SF} {g : Nat → Int64} {J : SI} {G : SF} (e : Int32) (he : ¬ e = 0) (h : Rel n I F J G) (hL : ∀ Post : Int32 → SI → SF → (Nat → Int64) → Prop, Post e I F g → wL Post) (hM : ∀ Post : Int32 → SI → SF → Prop, Post 0 (va_up J 0 e) G → wM Post) :
    ∃ P, wL P ∧ ∀ r5 I1 F1 g1, P r5 I1 F1 g1 → ∃ PM, wM PM ∧ ∀ b6 J1 G1, PM b6 J1 G1 → ∃ PT : Int32 → SI → SF → Prop, wp_MM_thrown J1 G1 PT ∧ ∀ t5 J2 G2, PT t5 J2 G2 → t5 = r5 ∧ (r5 = 0 → g1 (0 : Int32).toNatClampNeg = b6.toInt64) ∧ Rel (n + 1) I1 F1 J2 G2 := by
  refine mkI e 0 (fun I1 F1 => I1 = I ∧ F1 = F) (fun J1 G1 => J1 = va_up J 0 e ∧ G1 = G) (hL _ ⟨rfl, fun z => absurd z he, rfl, rfl⟩) (hM _ ⟨va_up_self _ _ _, fun z => absurd z he, rfl, rfl⟩) ?_
  intro I1 F1 J1 G1 q1 q2 _
  obtain ⟨rfl, rfl⟩ := q1
  obtain ⟨rfl, rfl⟩ := q2
  exact Rel_t _ h
theorem failZ {wL : (Int32 → SI → SF → (Nat → Int64) → Prop) → Prop} {wM : (Int32 → SI → SF → Prop) → Prop} {n : Nat} {I : SI} {F : SF} {g : Nat → Int64} {J : SI} {G : SF} (e : Int32) (he : ¬ e = 0) (h : Rel n I F J G) (hL : ∀ Post : Int32 → SI → SF → (Nat → Int64) → Prop, Post e I F g → wL Post) (hM : ∀ Post : Int32 → SI → SF → Prop, Post 0 (va_up J 0 e) G → wM Post) :
    ∃ P, wL P ∧ ∀ r5 I1 F1 g1, P r5 I1 F1 g1 → ∃ PM, wM PM ∧ ∀ b6 J1 G1, PM b6 J1 G1 → ∃ PT : Int32 → SI → SF → Prop, wp_MM_thrown J1 G1 PT ∧ ∀ t5 J2 G2, PT t5 J2 G2 → t5 = r5 ∧ (r5 = 0 → ((b6 = 0 → g1 (0 : Int32).toNatClampNeg = 0) ∧ (¬ b6 = 0 → g1 (0 : Int32).toNatClampNeg = 1))) ∧ Rel (n + 1) I1 F1 J2 G2 := by
  refine mkZ e 0 (fun I1 F1 => I1 = I ∧ F1 = F) (fun J1 G1 => J1 = va_up J 0 e ∧ G1 = G) (hL _ ⟨rfl, fun z => absurd z he, rfl, rfl⟩) (hM _ ⟨va_up_self _ _ _, fun z => absurd z he, rfl, rfl⟩) ?_
  intro I1 F1 J1 G1 q1 q2 _
  obtain ⟨rfl, rfl⟩ := q1
  obtain ⟨rfl, rfl⟩ := q2
  exact Rel_t _ h
theorem fits_b {k : Nat} (h : k ≤ 1) : bo (nI k) := by
  rcases Nat.lt_or_ge k 1 with q | q
  · rw [show k = 0 by omega]; exact bo_0
  · rw [show k = 1 by omega]; exact bo_1
section CM
variable {p1 p2 p3 p4 p5 p6 : Int32} {I : SI} {F : SF} {Post : Int32 → SI → SF → Prop} {PX : Nat → SI → SF → Prop}
/-- what 'method' asks of its numbers -/
def mfit (p2 p3 p4 p5 p6 : Int32) : Prop := (¬ p2 < 0 ∧ p2 < 5) ∧ p3 >>> (p2 &&& 31) = 0 ∧ (¬ p4 < 0 ∧ p4 < 3) ∧ ¬ p5 < p2 ∧ ¬ 10 < p5 ∧ ¬ p6 < 0 ∧ p6 < 16
theorem cM1 (c1 : ¬ (¬ p1 < 0 ∧ p1 < 8)) (h : PX 1 I F) : wp_CJ_method p1 p2 p3 p4 p5 p6 I F Post PX := by
  unfold wp_CJ_method
  simp only [ev_below, ex3]
  exact ⟨fun z => absurd (bi_1 z) c1, fun _ => h⟩
theorem cM2 (c1 : ¬ p1 < 0 ∧ p1 < 8) (c2 : ¬ mfit p2 p3 p4 p5 p6) (h : PX 2 I F) : wp_CJ_method p1 p2 p3 p4 p5 p6 I F Post PX := by
  unfold wp_CJ_method
  simp only [ev_below, ex3]
  exact ⟨fun _ => ⟨fun _ => h, fun q2 => ⟨fun _ => h, fun q3 => ⟨fun _ => h, fun q4 => ⟨fun _ => h, fun q5 => ⟨fun _ => h, fun q6 => ⟨fun q7 => absurd ⟨bi_1 q2, q3, bi_1 q4, q5, q6, bi_1 q7⟩ c2, fun _ => h⟩⟩⟩⟩⟩⟩, fun z => absurd c1 (bi_0.mp z)⟩
theorem cM0 {k a b c d e : Nat} (hk : k < 8) (hf : mfit (nI a) (nI b) (nI c) (nI d) (nI e)) (hb : bo (I (20 + 10 * k))) (h : Post (I (20 + 10 * k)) (va_up (va_up (va_up (va_up (va_up (va_up (va_up (va_up I (20 + 10 * k) 1) (21 + 10 * k) (nI a)) (22 + 10 * k) (nI b)) (23 + 10 * k) (nI c)) (24 + 10 * k) (nI d)) (25 + 10 * k) (nI e)) (26 + 10 * k) 0) 1 0) F) : wp_CJ_method (nI k) (nI a) (nI b) (nI c) (nI d) (nI e) I F Post PX := by
  obtain ⟨e2, e3, e4, e5, e6, e7⟩ := hf
  unfold wp_CJ_method
  simp only [ev_below, ex3, wp_Me_begin, wp_Ma_forget, ex2, cl (show k < 2 ^ 31 by omega)]
  refine ⟨fun _ => ⟨fun z => absurd e2 (bi_0.mp z), fun _ => ⟨fun z => absurd e3 z, fun _ => ⟨fun z => absurd e4 (bi_0.mp z), fun _ => ⟨fun z => absurd z e5, fun _ => ⟨fun z => absurd z e6, fun _ => ⟨fun _ => ⟨vp_in_nI hk (by decide), fun x hx => ?_⟩, fun z => absurd e7 (bi_0.mp z)⟩⟩⟩⟩⟩⟩, fun z => absurd ⟨nI_pos (by omega), (nI_ltI (by omega) (by decide)).mpr hk⟩ (bi_0.mp z)⟩
  subst hx
  exact ⟨hb, h⟩
theorem mM1 (c1 : ¬ (¬ p1 < 0 ∧ p1 < 8)) (h : Post 0 (va_up I 0 1) F) : wp_MM_method p1 p2 p3 p4 p5 p6 I F Post := by
  have ok : ∀ s0, wp_MM_method_58 Post p1 p2 p3 p4 p5 p6 s0 I F := by
    intro s0
    unfold wp_MM_method_58
    simp only [ev_within, ex3]
    simp only [ev_goes1 (show bi (0 ≤ p1 ∧ p1 ≤ 7) = 0 from bi_n (fun q => c1 (w_b (n := 7) rfl rfl (by decide) q))), ex3]
    exact ⟨fun z => absurd z (by decide), fun _ => h⟩
  unfold wp_MM_method wp_MM_method_57
  simp only [ev_within, ex3]
  exact ⟨fun _ => ok _, fun q2 => ⟨fun _ => ok _, fun _ => ⟨fun _ => ok _, fun q3 => ⟨fun _ => ok _, fun q4 => ⟨fun _ => ok _, fun q5 => ⟨fun _ => ok _, fun q6 => ⟨fun _ => ok _, fun q7 => ok _⟩⟩⟩⟩⟩⟩⟩
theorem mM2 (c1 : ¬ p1 < 0 ∧ p1 < 8) (c2 : ¬ mfit p2 p3 p4 p5 p6) (h : Post 0 (va_up I 0 2) F) : wp_MM_method p1 p2 p3 p4 p5 p6 I F Post := by
  have ok : wp_MM_method_57 Post p1 p2 p3 p4 p5 p6 I F := by
    unfold wp_MM_method_57 wp_MM_method_58
    simp only [ev_within, ex3]
    simp only [ev_goes2 (show ¬ bi (0 ≤ p1 ∧ p1 ≤ 7) = 0 from fun q => absurd (b_w (n := 7) rfl rfl (by decide) c1) (bi_0.mp q)) rfl, ex3]
    exact ⟨fun z => absurd z (by decide), fun _ => h⟩
  unfold wp_MM_method
  simp only [ev_within, ex3]
  refine ⟨fun _ => ok, fun q2 => ⟨fun _ => ok, fun _ => ⟨fun _ => ok, fun q3 => ⟨fun _ => ok, fun q4 => ⟨fun _ => ok, fun q5 => ⟨fun _ => ok, fun q6 => ⟨fun _ => ok, fun q7 => absurd ?_ c2⟩⟩⟩⟩⟩⟩⟩
  exact ⟨w_b (n := 4) rfl rfl (by decide) (bi_1 q2), q3, w_b (n := 2) rfl rfl (by decide) (bi_1 q4), q5, q6, w_b (n := 15) rfl rfl (by decide) (bi_1 q7)⟩
theorem mM0 {k a b c d e : Nat} (hk : k < 8) (hb31 : b < 2 ^ 31) (hf : mfit (nI a) (nI b) (nI c) (nI d) (nI e)) (hb : bo (F 1 k)) (h : Post (F 1 k) (va_up (va_up I 0 0) 4 0) (va_up (va_up (va_up (va_up (va_up (va_up (va_up F 1 (upd (F 1) k 1)) 2 (upd (F 2) k (nI a))) 3 (upd (F 3) k (nI b))) 4 (upd (F 4) k (nI c))) 5 (upd (F 5) k (nI d))) 6 (upd (F 6) k (nI e))) 7 (upd (F 7) k 0))) : wp_MM_method (nI k) (nI a) (nI b) (nI c) (nI d) (nI e) I F Post := by
  obtain ⟨e2, e3, e4, e5, e6, e7⟩ := hf
  have hv := vp_in_nI hk (show 8 < 2 ^ 31 by decide)
  have d1 : ¬ bi (0 ≤ nI k ∧ nI k ≤ 7) = 0 := fun z => absurd ⟨nI_pos' (by omega), (nI_leI (by omega) (by decide)).mpr (show k ≤ 7 by omega)⟩ (bi_0.mp z)
  unfold wp_MM_method
  simp only [ev_within, ex3]
  refine ⟨fun z => absurd (b_w (n := 4) rfl rfl (by decide) e2) (bi_0.mp z), fun _ => ⟨fun z => absurd z (nI_pos hb31), fun _ => ⟨fun z => absurd e3 z, fun _ => ⟨fun z => absurd (b_w (n := 2) rfl rfl (by decide) e4) (bi_0.mp z), fun _ => ⟨fun z => absurd z e5, fun _ => ⟨fun z => absurd z e6, fun _ => ⟨fun z => absurd (b_w (n := 15) rfl rfl (by decide) e7) (bi_0.mp z), fun _ => ?_⟩⟩⟩⟩⟩⟩⟩
  unfold wp_MM_method_58
  simp only [ev_within, ex3, ev_goes0 d1 (show ¬ (1 : Int32) = 0 by decide) (show ¬ (1 : Int32) = 0 by decide), cl (show k < 2 ^ 31 by omega), n_nar1]
  refine ⟨fun _ => ⟨hv, fun x hx => ?_⟩, fun z => absurd z (by decide)⟩
  subst hx
  exact ⟨hv, hv, hv, hv, hv, hv, hv, hb, h⟩
end CM
theorem sim_method (n : Nat) (p1 p2 p3 p4 p5 p6 : Int32) (I : SI) (F : SF) (g : Nat → Int64) (J : SI) (G : SF) (hn : n < 512) (h : Rel n I F J G) : wpl_method p1 p2 p3 p4 p5 p6 I F g J G (Rel (n + 1)) := by
  by_cases c1 : ¬ p1 < 0 ∧ p1 < 8
  · by_cases c2 : mfit p2 p3 p4 p5 p6
    · obtain ⟨P, hw, hc, hm, hb, hr, hrun⟩ := h
      have c3 := c2
      obtain ⟨e2, e3, e4, e5, e6, e7⟩ := c2
      obtain ⟨k, hk, rfl⟩ := in_nI (n := 8) rfl (by decide) c1
      obtain ⟨a, ha, rfl⟩ := in_nI (n := 5) rfl (by decide) e2
      obtain ⟨b, hb2, rfl⟩ := nx_small (by omega) e3
      obtain ⟨c, hc2, rfl⟩ := in_nI (n := 3) rfl (by decide) e4
      obtain ⟨e, he, rfl⟩ := in_nI (n := 16) rfl (by decide) e7
      have e8 : ¬ p5 < 0 := fun q => e5 (Int32.lt_of_lt_of_le q (lt0.mp e2.1))
      obtain ⟨d, hd, rfl⟩ := nI_of e8
      have hd1 : a ≤ d := (nI_leI (by omega) hd).mp (Int32.not_lt.mp e5)
      have hd2 : d ≤ 10 := (nI_leI hd (by decide)).mp (Int32.not_lt.mp e6)
      have b16 : b < 2 ^ 31 := Nat.lt_of_lt_of_le hb2 (Nat.pow_le_pow_right (by decide) (by omega))
      obtain ⟨t0, -⟩ := hc k hk
      obtain ⟨m0, -⟩ := hm k hk
      have hbo : bo (nI (P.1 k 0)) := fits_b (hw k hk).1
      refine mkZ 0 (nI (P.1 k 0)) (fun I F => cT (pM P k a b c d e) I F ∧ I 1 = 0) (fun J G => mT (pM P k a b c d e) G ∧ J 4 = 0) ?_ ?_ ?_
      · refine ⟨fun r I F => r = nI (P.1 k 0) ∧ cT (pM P k a b c d e) I F ∧ I 1 = 0, fun _ _ _ => False, cM0 hk c3 (by rw [t0]; exact hbo) ⟨t0, cT_f (by omega) (cT_M hk hc), va_up_self _ _ _⟩, fun _ _ _ q => q.elim, fun r I F q => ?_⟩
        obtain ⟨rfl, q2, q3⟩ := q
        exact ⟨fun z => ⟨rfl, fun _ => ⟨fun _ => updL_0 _ _, fun w => absurd z w⟩, q2, q3⟩, fun z => ⟨rfl, fun _ => ⟨fun w => absurd w z, fun _ => updL_0 _ _⟩, q2, q3⟩⟩
      · exact mM0 hk b16 c3 (by rw [m0]; exact hbo) ⟨rfl, fun _ => m0, mT_M hk hm, va_up_self _ _ _⟩
      · intro I1 F1 J1 G1 q1 q2 _
        exact ⟨pM P k a b c d e, wf_M hw (by omega) hb2 (by omega) hd1 hd2 (by omega), q1.1, q2.1, by rw [q1.2]; exact bo_0, by rw [q1.2, q2.2], fun z => absurd (q1.2.symm.trans z) (by decide)⟩
    · exact failZ 2 (by decide) h (fun Post q => ⟨fun _ _ _ => False, fun k I1 F1 => k = 2 ∧ I1 = I ∧ F1 = F, cM2 c1 c2 ⟨rfl, rfl, rfl⟩, fun k I1 F1 z => Or.inr ⟨z.1, by rw [z.2.1, z.2.2]; exact q⟩, fun _ _ _ z => z.elim⟩) (fun Post q => mM2 c1 c2 q)
  · exact failZ 1 (by decide) h (fun Post q => ⟨fun _ _ _ => False, fun k I1 F1 => k = 1 ∧ I1 = I ∧ F1 = F, cM1 c1 ⟨rfl, rfl, rfl⟩, fun k I1 F1 z => Or.inl ⟨z.1, by rw [z.2.1, z.2.2]; exact q⟩, fun _ _ _ z => z.elim⟩) (fun Post q => mM1 c1 q)
