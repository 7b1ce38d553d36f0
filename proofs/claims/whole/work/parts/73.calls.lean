/-- the number names a method that is there -/
def isM (P : aj_P) (p : Int32) : Prop := ∃ k, k < 8 ∧ p = nI k ∧ P.1 k 0 = 1
/-- and the second a place in its code -/
def isP (P : aj_P) (p q : Int32) : Prop := ∃ k j, k < 8 ∧ p = nI k ∧ P.1 k 0 = 1 ∧ q = nI j ∧ j < P.1 k 6
section CA
variable {P : aj_P} {I : SI} {F : SF} {J : SI} {G : SF} {PX : Nat → SI → SF → Prop}
theorem n1_of {k : Nat} (h : k ≤ 1) (h2 : ¬ k = 1) : nI k = 0 := by rw [show k = 0 by omega]; rfl
theorem n1_ne : ¬ nI 1 = 0 := by decide
theorem cP_y {Post : Nat → SI → SF → Prop} {k : Nat} (hc : cT P I F) (hk : k < 8) (h1 : P.1 k 0 = 1) (h : Post k I F) : wp_CJ_present (nI k) I F Post PX := by
  unfold wp_CJ_present
  simp only [ev_below, ex3, cl (show k < 2 ^ 31 by omega), (hc k hk).1, h1]
  have hv := vp_in_nI hk (show 8 < 2 ^ 31 by decide)
  exact ⟨fun z => absurd ⟨nI_pos (by omega), (nI_ltI (by omega) (by decide)).mpr hk⟩ (bi_0.mp z), fun _ => ⟨hv, fun _ => ⟨hv, h⟩, fun z => absurd z n1_ne⟩⟩
theorem cP_n {Post : Nat → SI → SF → Prop} {p : Int32} (hw : wfP P) (hc : cT P I F) (h1 : ¬ isM P p) (h : PX 1 I F) : wp_CJ_present p I F Post PX := by
  unfold wp_CJ_present
  simp only [ev_below, ex3]
  refine ⟨fun _ => h, fun z => ?_⟩
  obtain ⟨k, hk, rfl⟩ := in_nI (n := 8) rfl (by decide) (bi_1 z)
  have hv := vp_in_nI hk (show 8 < 2 ^ 31 by decide)
  refine ⟨hv, fun q => ?_, fun _ => h⟩
  rw [cl (show k < 2 ^ 31 by omega), (hc k hk).1] at q
  exact absurd (n1_of (hw k hk).1 (fun w => h1 ⟨k, hk, rfl, w⟩)) q
theorem mP_y {Post : Int32 → SI → SF → Prop} {k : Nat} (hm : mT P G) (hk : k < 8) (h1 : P.1 k 0 = 1) : wp_MM_isMethod (nI k) J G Post ↔ Post 1 J G := by
  unfold wp_MM_isMethod
  rw [cl (show k < 2 ^ 31 by omega), (hm k hk).1, h1]
  have hv := vp_in_nI hk (show 8 < 2 ^ 31 by decide)
  have h8 : ¬ 8 ≤ nI k := nI_ge hk (by decide)
  exact ⟨fun q => ((q.2 (nI_pos (by omega))).2 h8).2.2 n1_ne, fun q => ⟨fun z => absurd z (nI_pos (by omega)), fun _ => ⟨fun z => absurd z h8, fun _ => ⟨hv, fun z => absurd z n1_ne, fun _ => q⟩⟩⟩⟩
theorem mP_n {Post : Int32 → SI → SF → Prop} {p : Int32} (hw : wfP P) (hm : mT P G) (h1 : ¬ isM P p) : wp_MM_isMethod p J G Post ↔ Post 0 J G := by
  unfold wp_MM_isMethod
  by_cases a : p < 0
  · exact ⟨fun q => q.1 a, fun q => ⟨fun _ => q, fun z => absurd a z⟩⟩
  · by_cases b : 8 ≤ p
    · exact ⟨fun q => (q.2 a).1 b, fun q => ⟨fun _ => q, fun _ => ⟨fun _ => q, fun z => absurd b z⟩⟩⟩
    · obtain ⟨k, hk, rfl⟩ := in_nI (n := 8) rfl (by decide) ⟨a, Int32.not_le.mp b⟩
      have hv := vp_in_nI hk (show 8 < 2 ^ 31 by decide)
      have h0 : G 1 (nI k).toNatClampNeg = 0 := by
        rw [cl (show k < 2 ^ 31 by omega), (hm k hk).1]
        exact n1_of (hw k hk).1 (fun w => h1 ⟨k, hk, rfl, w⟩)
      exact ⟨fun q => ((q.2 a).2 b).2.1 h0, fun q => ⟨fun z => absurd z a, fun _ => ⟨fun z => absurd z b, fun _ => ⟨hv, fun _ => q, fun z => absurd h0 z⟩⟩⟩⟩
theorem s120 (hw : wfP P) {k : Nat} (hk : k < 8) : P.1 k 6 ≤ 120 := (hw k hk).2.2.2.2.2.2.2.1
theorem c_size (hc : cT P I F) {k : Nat} (hk : k < 8) : I (26 + 10 * k) = nI (P.1 k 6) := (hc k hk).2.2.2.2.2.2.1
theorem c_ord (hc : cT P I F) {k p : Nat} (hk : k < 8) (hp : p < 120) : F (24 + 3 * k) p = nI (P.2.1 k p) := ((hc k hk).2.2.2.2.2.2.2 p hp).1
theorem c_num (hc : cT P I F) {k p : Nat} (hk : k < 8) (hp : p < 120) : F (25 + 3 * k) p = P.2.2 k p := ((hc k hk).2.2.2.2.2.2.2 p hp).2
theorem m_size (hm : mT P G) {k : Nat} (hk : k < 8) (h : P.1 k 0 = 1) : G 7 k = nI (P.1 k 6) := (hm k hk).2.2.2.2.2.2.1 h
theorem m_ord (hm : mT P G) {k p : Nat} (hk : k < 8) (hp : p < 120) : G 8 (120 * k + p) = nI (P.2.1 k p) := ((hm k hk).2.2.2.2.2.2.2 p hp).1
theorem m_num (hm : mT P G) {k p : Nat} (hk : k < 8) (hp : p < 120) : G 9 (120 * k + p) = P.2.2 k p := ((hm k hk).2.2.2.2.2.2.2 p hp).2
/-- has, whatever is asked -/
theorem ev_has {Post : Int32 → SI → SF → Prop} {k : Nat} {q : Int32} (hc : cT P I F) (hk : k < 8) : wp_Me_has k q I F Post ↔ Post (bi (¬ q < 0 ∧ q < nI (P.1 k 6))) I F := by
  unfold wp_Me_has
  simp only [ev_below, ex3, c_size hc hk]
  exact ⟨fun z => z.2, fun z => ⟨bi_bo, z⟩⟩
theorem hs_y (hw : wfP P) {k j : Nat} (hk : k < 8) (hj : j < P.1 k 6) : bi (¬ nI j < 0 ∧ nI j < nI (P.1 k 6)) = 1 := by
  have := s120 hw hk
  exact bi_y ⟨nI_pos (by omega), (nI_ltI (by omega) (by omega)).mpr hj⟩
theorem cW_y {Post : Nat → SI → SF → Prop} {k j : Nat} (hw : wfP P) (hc : cT P I F) (hk : k < 8) (h1 : P.1 k 0 = 1) (hj : j < P.1 k 6) (h : Post k I F) : wp_CJ_presentWith (nI k) (nI j) I F Post PX := by
  refine ⟨_, PX, cP_y hc hk h1 ?_, fun _ _ _ q => q, fun _ _ _ q => q⟩
  simp only [ev_has hc hk, ex3, hs_y hw hk hj]
  exact ⟨fun _ => h, fun z => absurd z (by decide)⟩
theorem cW_n {Post : Nat → SI → SF → Prop} {p q : Int32} (hw : wfP P) (hc : cT P I F) (h1 : ¬ isP P p q) (h : PX 1 I F) : wp_CJ_presentWith p q I F Post PX := by
  by_cases a : isM P p
  · obtain ⟨k, hk, rfl, h2⟩ := a
    refine ⟨_, PX, cP_y hc hk h2 ?_, fun _ _ _ q => q, fun _ _ _ q => q⟩
    simp only [ev_has hc hk, ex3]
    refine ⟨fun z => ?_, fun _ => h⟩
    have := s120 hw hk
    obtain ⟨j, hj, rfl⟩ := in_nI (n := P.1 k 6) rfl (by omega) (bi_1 z)
    exact absurd ⟨k, j, hk, rfl, h2, rfl, hj⟩ h1
  · exact ⟨_, PX, cP_n hw hc a h, fun _ _ _ q => q, fun _ _ _ q => q⟩
theorem mW_y {Post : Int32 → SI → SF → Prop} {k j : Nat} (hw : wfP P) (hm : mT P G) (hk : k < 8) (h1 : P.1 k 0 = 1) (hj : j < P.1 k 6) : wp_MM_isPlace (nI k) (nI j) J G Post ↔ Post 1 J G := by
  unfold wp_MM_isPlace
  have := s120 hw hk
  simp only [mP_y hm hk h1, ex3, cl (show k < 2 ^ 31 by omega), m_size hm hk h1]
  have hv := vp_in_nI hk (show 8 < 2 ^ 31 by decide)
  have hl : ¬ nI (P.1 k 6) ≤ nI j := nI_ge hj (by omega)
  exact ⟨fun q => ((q.2 (by decide)).2 (nI_pos (by omega))).2.2 hl, fun q => ⟨fun z => absurd z (by decide), fun _ => ⟨fun z => absurd z (nI_pos (by omega)), fun _ => ⟨hv, fun z => absurd z hl, fun _ => q⟩⟩⟩⟩
theorem mW_n {Post : Int32 → SI → SF → Prop} {p q : Int32} (hw : wfP P) (hm : mT P G) (h1 : ¬ isP P p q) : wp_MM_isPlace p q J G Post ↔ Post 0 J G := by
  unfold wp_MM_isPlace
  by_cases a : isM P p
  · obtain ⟨k, hk, rfl, h2⟩ := a
    have := s120 hw hk
    simp only [mP_y hm hk h2, ex3, cl (show k < 2 ^ 31 by omega), m_size hm hk h2]
    have hv := vp_in_nI hk (show 8 < 2 ^ 31 by decide)
    by_cases b : q < 0
    · exact ⟨fun z => (z.2 (by decide)).1 b, fun z => ⟨fun w => absurd w (by decide), fun _ => ⟨fun _ => z, fun w => absurd b w⟩⟩⟩
    · have hl : nI (P.1 k 6) ≤ q := by
        refine Int32.not_lt.mp (fun w => ?_)
        obtain ⟨j, hj, rfl⟩ := in_nI (n := P.1 k 6) rfl (by omega) ⟨b, w⟩
        exact h1 ⟨k, j, hk, rfl, h2, rfl, hj⟩
      exact ⟨fun z => ((z.2 (by decide)).2 b).2.1 hl, fun z => ⟨fun w => absurd w (by decide), fun _ => ⟨fun _ => z, fun _ => ⟨hv, fun _ => z, fun w => absurd hl w⟩⟩⟩⟩
  · simp only [mP_n hw hm a, ex3]
    exact ⟨fun z => z.1 trivial, fun z => ⟨fun _ => z, fun w => absurd trivial w⟩⟩
end CA
/-! drop -/
def pD (P : aj_P) (k : Nat) : aj_P := (va_up P.1 k (va_up (va_up (P.1 k) 0 0) 6 0), P.2)
theorem cT_D {P : aj_P} {I : SI} {F : SF} {k : Nat} (hk : k < 8) (h : cT P I F) : cT (pD P k) (va_up (va_up I (20 + 10 * k) 0) (26 + 10 * k) 0) F := by
  intro j hj
  obtain ⟨a0, a1, a2, a3, a4, a5, a6, a7⟩ := h j hj
  by_cases q : j = k
  · subst q
    refine ⟨?_, ?_, ?_, ?_, ?_, ?_, ?_, a7⟩
    all_goals simp only [va_up]
    all_goals (repeat first | rw [if_pos (by omega)] | rw [if_neg (by omega)])
    all_goals simp [pD, va_up]
    all_goals first | rfl | assumption
  · refine ⟨?_, ?_, ?_, ?_, ?_, ?_, ?_, a7⟩
    all_goals simp only [va_up]
    all_goals (repeat first | rw [if_pos (by omega)] | rw [if_neg (by omega)])
    all_goals simp [pD, va_up, q]
    all_goals assumption
theorem mT_D {P : aj_P} {G : SF} {k : Nat} (h : mT P G) : mT (pD P k) (va_up G 1 (upd (G 1) k 0)) := by
  intro j hj
  obtain ⟨a0, a1, a2, a3, a4, a5, a6, a7⟩ := h j hj
  by_cases q : j = k
  · subst q
    refine ⟨?_, ?_, ?_, ?_, ?_, ?_, fun z => absurd z (by simp [pD, va_up]), a7⟩
    all_goals simp [pD, va_up, upd]
    all_goals first | rfl | assumption
  · refine ⟨?_, ?_, ?_, ?_, ?_, ?_, ?_, a7⟩
    all_goals simp [pD, va_up, upd, q]
    all_goals assumption
theorem wf_D {P : aj_P} {k : Nat} (h : wfP P) : wfP (pD P k) := by
  intro j hj
  obtain ⟨a0, a1, a2, a3, a4, a5, a6, a7, a8⟩ := h j hj
  by_cases q : j = k
  · subst q
    refine ⟨?_, ?_, ?_, ?_, ?_, ?_, ?_, ?_, a8⟩
    all_goals simp [pD, va_up]
    all_goals assumption
  · refine ⟨?_, ?_, ?_, ?_, ?_, ?_, ?_, ?_, a8⟩
    all_goals simp [pD, va_up, q]
    all_goals assumption
theorem Rel_new {n : Nat} {P : aj_P} {I : SI} {F : SF} {J : SI} {G : SF} (h1 : wfP P) (h2 : cT P I F) (h3 : mT P G) (h4 : I 1 = 0) (h5 : J 4 = 0) : Rel n I F J G :=
  ⟨P, h1, h2, h3, by rw [h4]; exact bo_0, by rw [h4, h5], fun z => absurd (h4.symm.trans z) (by decide)⟩
theorem sim_drop (n : Nat) (p1 : Int32) (I : SI) (F : SF) (g : Nat → Int64) (J : SI) (G : SF) (hn : n < 512) (h : Rel n I F J G) : wpl_drop p1 I F g J G (Rel (n + 1)) := by
  have h0 := h
  obtain ⟨P, hw, hc, hm, hb, hr, hrun⟩ := h
  by_cases c1 : isM P p1
  · obtain ⟨k, hk, rfl, h1⟩ := c1
    refine mkI 0 (nI (P.1 k 6)) (fun I F => cT (pD P k) I F ∧ I 1 = 0) (fun J G => mT (pD P k) G ∧ J 4 = 0) ?_ ?_ (fun I1 F1 J1 G1 q1 q2 _ => Rel_new (wf_D hw) q1.1 q2.1 q1.2 q2.2)
    · refine ⟨fun r I F => r = nI (P.1 k 6) ∧ cT (pD P k) I F ∧ I 1 = 0, fun _ _ _ => False, ⟨_, _, cP_y hc hk h1 ?_, fun _ _ _ q => q, fun _ _ _ q => q⟩, fun _ _ _ q => q.elim, fun r I F q => ?_⟩
      · intro x hx
        simp only [wp_Me_vanish, wp_Ma_forget, ex2]
        exact ⟨hx.trans (c_size hc hk), cT_f (by omega) (cT_D hk hc), va_up_self _ _ _⟩
      · obtain ⟨rfl, q2, q3⟩ := q
        exact ⟨rfl, fun _ => updL_0 _ _, q2, q3⟩
    · have hv := vp_in_nI hk (show 8 < 2 ^ 31 by decide)
      show wp_MM_drop _ _ _ _
      unfold wp_MM_drop
      simp only [mP_y hm hk h1, ex3, ev_goes0 (show ¬ (1 : Int32) = 0 by decide) (show ¬ (1 : Int32) = 0 by decide) (show ¬ (1 : Int32) = 0 by decide), cl (show k < 2 ^ 31 by omega), n_nar0]
      refine ⟨fun _ => ⟨hv, hv, ?_⟩, fun z => absurd z (by decide)⟩
      exact ⟨rfl, fun _ => m_size hm hk h1, mT_D hm, va_up_self _ _ _⟩
  · refine failI 1 (by decide) h0 (fun Post q => ⟨fun _ _ _ => False, fun k I1 F1 => k = 1 ∧ I1 = I ∧ F1 = F, ⟨_, _, cP_n hw hc c1 ⟨rfl, rfl, rfl⟩, fun _ _ _ q => q, fun _ _ _ q => q⟩, fun k I1 F1 z => ⟨z.1, by rw [z.2.1, z.2.2]; exact q⟩, fun _ _ _ z => z.elim⟩) (fun Post q => ?_)
    show wp_MM_drop _ _ _ _
    unfold wp_MM_drop
    simp only [mP_n hw hm c1, ex3, ev_goes1 (show (0 : Int32) = 0 from rfl)]
    exact ⟨fun z => absurd trivial z, fun _ => q⟩
