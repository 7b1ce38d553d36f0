/-! the questions about a run -/
theorem aj_bd {P : aj_P} {m p : Nat} {K : aj_J} {x : aj_S} (h : aj_least P m K) (hx : K p = some x) : p < P.1 m 6 ∧ x.1 ≤ P.1 m 5 := by
  refine ⟨(h.1.1 p x hx).1, ?_⟩
  have key : aj_sol P m (fun q => (K q).bind (aj_lim (P.1 m 5))) := by
    have up : ∀ q z, K q = some z → z.1 ≤ P.1 m 5 → (K q).bind (aj_lim (P.1 m 5)) = some z := by
      intro q z h1 h2
      rw [h1]
      simp [aj_lim, h2]
    have dn : ∀ q z, (K q).bind (aj_lim (P.1 m 5)) = some z → K q = some z := by
      intro q z h1
      cases e : K q with
      | none => rw [e] at h1; cases h1
      | some w =>
        rw [e] at h1
        simp only [Option.bind_some, aj_lim] at h1
        split at h1
        · exact h1
        · cases h1
    refine ⟨fun q z hq => ?_, ?_⟩
    · obtain ⟨h1, y, h2, h3⟩ := h.1.1 q z (dn q z hq)
      refine ⟨h1, y, h2, fun t ht => ?_⟩
      obtain ⟨h4, w, h5, h6⟩ := h3 t ht
      refine ⟨h4, w, up _ _ h5 ?_, h6⟩
      have hy : y.1 ≤ P.1 m 5 := by
        unfold aj_ef at h2
        cases e : aj_do P m (P.2.1 m q) (P.2.2 m q) z with
        | none => rw [e] at h2; cases h2
        | some v =>
          rw [e] at h2
          simp only [Option.bind_some, aj_lim] at h2
          split at h2
          · next hv => cases h2; exact hv
          · cases h2
      have := h6.1
      omega
    · obtain ⟨z, h1, h2⟩ := h.1.2
      refine ⟨z, up _ _ h1 ?_, h2⟩
      have : (0 : Nat) = z.1 := h2.1
      omega
  obtain ⟨z, h1, h2⟩ := h.2 _ key p x hx
  have h3 : z.1 ≤ P.1 m 5 := by
    have h1 : (K p).bind (aj_lim (P.1 m 5)) = some z := h1
    rw [hx] at h1
    simp only [Option.bind_some, aj_lim] at h1
    split at h1
    · next hv => cases h1; exact hv
    · cases h1
  have := h2.1
  omega
theorem nI_mul (a b : Nat) : nI a * nI b = nI (a * b) := (Int32.ofNat_mul a b).symm
theorem nI_sub (a b : Nat) (h : b ≤ a) : nI a - nI b = nI (a - b) := by
  have : nI a = nI (a - b) + nI b := by rw [nI_add]; congr 1; omega
  rw [this, Int32.add_sub_cancel]
theorem j15 (f j : Nat) : (nI (f + 1) - 1) * 15 + nI j = nI (15 * f + j) := by
  rw [nI_pred, show (15 : Int32) = nI 15 from rfl, nI_mul, nI_add]; congr 1; omega
theorem j10 (f j : Nat) : (nI (f + 1) - 1) * 10 + nI j = nI (10 * f + j) := by
  rw [nI_pred, show (10 : Int32) = nI 10 from rfl, nI_mul, nI_add]; congr 1; omega
theorem j16 (f j : Nat) : (16 : Int32) * nI (f + 1) - 16 + nI j = nI (16 * f + j) := by
  rw [show (16 : Int32) = nI 16 from rfl, nI_mul, nI_sub _ _ (by omega), nI_add, show 16 * (f + 1) - 16 + j = 16 * f + j by omega]
theorem k10 (f j : Nat) : (10 : Int32) * nI (f + 1) - 10 + nI j = nI (10 * f + j) := by
  rw [show (10 : Int32) = nI 10 from rfl, nI_mul, nI_sub _ _ (by omega), nI_add, show 10 * (f + 1) - 10 + j = 10 * f + j by omega]
/-! frames, arrays and what is put out, without outcome, steps and answer -/
def cB (A : am) (I : SI) (F : SF) : Prop := I 9 = nI (A.1 0) ∧ I 10 = nI (A.1 1) ∧ I 11 = nI (A.1 2) ∧ I 12 = nI (A.1 3)
  ∧ (∀ i, i < A.1 0 → F 14 i = nI (A.2.1 0 i) ∧ F 15 i = nI (A.2.1 1 i) ∧ F 16 i = nI (A.2.1 2 i) ∧ (∀ j, j < 10 → F 17 (10 * i + j) = A.2.2 1 i j) ∧ ∀ j, j < A.2.1 2 i → F 18 (15 * i + j) = A.2.2 0 i j)
  ∧ (∀ i, i < A.1 1 → F 19 i = nI (A.2.1 3 i) ∧ F 20 i = nI (A.2.1 4 i)) ∧ (∀ q, q < A.1 2 → F 21 q = A.2.2 2 0 q) ∧ ∀ q, q < 100 → q < A.1 3 → F 22 q = A.2.2 3 0 q
def mB (A : am) (J : SI) (G : SF) : Prop := J 5 = nI (A.1 0) ∧ J 9 = nI (A.1 1) ∧ J 10 = nI (A.1 2) ∧ J 11 = nI (A.1 3)
  ∧ (∀ i, i < A.1 0 → G 17 i = nI (A.2.1 0 i) ∧ G 18 i = nI (A.2.1 1 i) ∧ G 19 i = nI (A.2.1 2 i) ∧ (∀ j, j < 10 → G 21 (10 * i + j) = A.2.2 1 i j) ∧ ∀ j, j < A.2.1 2 i → G 20 (16 * i + j) = A.2.2 0 i j)
  ∧ (∀ i, i < A.1 1 → G 22 i = nI (A.2.1 3 i) ∧ G 23 i = nI (A.2.1 4 i)) ∧ (∀ q, q < A.1 2 → G 24 q = A.2.2 2 0 q) ∧ ∀ q, q < 100 → q < A.1 3 → G 25 q = A.2.2 3 0 q
theorem cB_of {A : am} {I : SI} {F : SF} (h : cR A I F) : cB A I F := ⟨h.1, h.2.1, h.2.2.1, h.2.2.2.1, h.2.2.2.2.2.2.2⟩
theorem mB_of {A : am} {J : SI} {G : SF} (h : mR A J G) : mB A J G := ⟨h.1, h.2.1, h.2.2.1, h.2.2.2.1, h.2.2.2.2.2.2.2⟩
section QU
variable {n : Nat} {P : aj_P} {A : am} {I : SI} {F : SF} {J : SI} {G : SF} {Post : Int32 → SI → SF → Prop} {PX : Nat → SI → SF → Prop}
/-- the uppermost frame -/
theorem a_top (hw : wfP P) (hA : aS P A) {f : Nat} (hf : A.1 0 = f + 1) : f < 50 ∧ A.2.1 0 f < 8 ∧ P.1 (A.2.1 0 f) 0 = 1 ∧ A.2.1 1 f < P.1 (A.2.1 0 f) 6 ∧ A.2.1 1 f < 120 ∧ A.2.1 2 f ≤ 15 := by
  obtain ⟨h1, h2, g, h3, h4⟩ := hA
  obtain ⟨h5, K, x, h6, h7, h8, -, -⟩ := h4 f (by omega)
  obtain ⟨h9, h10, -⟩ := h3 _ h5
  obtain ⟨b1, b2⟩ := aj_bd h6 h7
  have hs := s120 hw h9
  have hl := (hw _ h9).2.2.2.2.2.2.1
  have hcond : ¬ f + 1 < A.1 0 := by omega
  rw [if_neg hcond, if_pos rfl] at h8
  exact ⟨by omega, h9, h10, b1, by omega, by omega⟩
theorem c_um {f : Nat} (hA : cB A I F) (hf : A.1 0 = f + 1) (h50 : f < 50) : wp_Fr_upperMethod I F Post ↔ Post (nI (A.2.1 0 f)) I F := by
  unfold wp_Fr_upperMethod
  rw [hA.1, hf, nI_pred, cl (by omega), ((hA.2.2.2.2.1) f (by omega)).1]
  exact ⟨fun q => (q.2 (nI_nle (by omega) (by omega))).2, fun q => ⟨fun z => absurd z (nI_nle (by omega) (by omega)), fun _ => ⟨vp_in_nI h50 (by decide), q⟩⟩⟩
theorem c_up {f : Nat} (hA : cB A I F) (hf : A.1 0 = f + 1) (h50 : f < 50) : wp_Fr_upperPlace I F Post ↔ Post (nI (A.2.1 1 f)) I F := by
  unfold wp_Fr_upperPlace
  rw [hA.1, hf, nI_pred, cl (by omega), ((hA.2.2.2.2.1) f (by omega)).2.1]
  exact ⟨fun q => (q.2 (nI_nle (by omega) (by omega))).2, fun q => ⟨fun z => absurd z (nI_nle (by omega) (by omega)), fun _ => ⟨vp_in_nI h50 (by decide), q⟩⟩⟩
theorem c_uh {f : Nat} (hA : cB A I F) (hf : A.1 0 = f + 1) (h50 : f < 50) : wp_Fr_upperHeight I F Post ↔ Post (nI (A.2.1 2 f)) I F := by
  unfold wp_Fr_upperHeight
  rw [hA.1, hf, nI_pred, cl (by omega), ((hA.2.2.2.2.1) f (by omega)).2.2.1]
  exact ⟨fun q => (q.2 (nI_nle (by omega) (by omega))).2, fun q => ⟨fun z => absurd z (nI_nle (by omega) (by omega)), fun _ => ⟨vp_in_nI h50 (by decide), q⟩⟩⟩
/-- what a place of the stack holds -/
theorem c_on {f j : Nat} (hA : cB A I F) (hf : A.1 0 = f + 1) (h50 : f < 50) (h15 : A.2.1 2 f ≤ 15) (hj : j < A.2.1 2 f) : wp_Fr_onStack (nI j) I F Post ↔ Post (A.2.2 0 f j) I F := by
  unfold wp_Fr_onStack
  simp only [c_uh hA hf h50, ex3, ev_below, bi_y (show ¬ nI j < 0 ∧ nI j < nI (A.2.1 2 f) from ⟨nI_pos (by omega), (nI_ltI (by omega) (by omega)).mpr hj⟩)]
  rw [hA.1, hf, j15, cl (by omega), ((hA.2.2.2.2.1) f (by omega)).2.2.2.2 j hj]
  exact ⟨fun q => (q.2 (by decide)).2, fun q => ⟨fun z => absurd z (by decide), fun _ => ⟨vp_in_nI (by omega) (by decide), q⟩⟩⟩
theorem c_lo {f j : Nat} (hA : cB A I F) (hf : A.1 0 = f + 1) (h50 : f < 50) (hj : j < 10) : wp_Fr_inLocal (nI j) I F Post ↔ Post (A.2.2 1 f j) I F := by
  unfold wp_Fr_inLocal
  simp only [ex3, ev_below, bi_y (show ¬ nI j < 0 ∧ nI j < 10 from ⟨nI_pos (by omega), (nI_ltI (by omega) (by decide)).mpr hj⟩)]
  rw [hA.1, hf, j10, cl (by omega), ((hA.2.2.2.2.1) f (by omega)).2.2.2.1 j hj]
  exact ⟨fun q => ((q.2 (nI_nle (by omega) (by omega))).2 (by decide)).2, fun q => ⟨fun z => absurd z (nI_nle (by omega) (by omega)), fun _ => ⟨fun z => absurd z (by decide), fun _ => ⟨vp_in_nI (by omega) (by decide), q⟩⟩⟩⟩
end QU
/-- an answer of a run that changes nothing -/
theorem okI {wL : (Int32 → SI → SF → (Nat → Int64) → Prop) → Prop} {wM : (Int32 → SI → SF → Prop) → Prop} {n : Nat} {I : SI} {F : SF} {J : SI} {G : SF} (r : Int32) (h : Rel n I F J G) (hL : ∀ Post : Int32 → SI → SF → (Nat → Int64) → Prop, (∀ g, g (0 : Int32).toNatClampNeg = r.toInt64 → Post 0 I F g) → wL Post) (hM : ∀ Post : Int32 → SI → SF → Prop, Post r (va_up J 0 0) G → wM Post) :
    ∃ P, wL P ∧ ∀ r5 I1 F1 g1, P r5 I1 F1 g1 → ∃ PM, wM PM ∧ ∀ b6 J1 G1, PM b6 J1 G1 → ∃ PT : Int32 → SI → SF → Prop, wp_MM_thrown J1 G1 PT ∧ ∀ t5 J2 G2, PT t5 J2 G2 → t5 = r5 ∧ (r5 = 0 → g1 (0 : Int32).toNatClampNeg = b6.toInt64) ∧ Rel (n + 1) I1 F1 J2 G2 := by
  refine mkI 0 r (fun I1 F1 => I1 = I ∧ F1 = F) (fun J1 G1 => J1 = va_up J 0 0 ∧ G1 = G) (hL _ (fun g hg => ⟨rfl, fun _ => hg, rfl, rfl⟩)) (hM _ ⟨va_up_self _ _ _, fun _ => rfl, rfl, rfl⟩) ?_
  intro I1 F1 J1 G1 q1 q2 _
  obtain ⟨rfl, rfl⟩ := q1
  obtain ⟨rfl, rfl⟩ := q2
  exact Rel_t _ h
theorem bo_ne {x : Int32} (h : bo x) (h2 : ¬ x = 0) : x = 1 := by
  rcases h with h | h
  · exact absurd h h2
  · exact h
theorem nI_nz {k : Nat} (h : k < 2 ^ 31) : nI k = 0 ↔ k = 0 := nI_eq h (by decide)
theorem sim_state (n : Nat) (p1 : Int32) (I : SI) (F : SF) (g : Nat → Int64) (J : SI) (G : SF) (hn : n < 512) (h : Rel n I F J G) : wpl_state p1 I F g J G (Rel (n + 1)) := by
  have h0 := h
  obtain ⟨P, hw, hc, hm, hb, hr, hrun⟩ := h
  by_cases c1 : ¬ p1 < 0 ∧ p1 < 9
  · have c1' : 0 ≤ p1 ∧ p1 ≤ 8 := b_w (n := 8) rfl rfl (by decide) c1
    by_cases c2 : I 1 = 0
    · refine failI 2 (by decide) h0 (fun Post q => ⟨fun _ _ _ => False, fun k I1 F1 => k = 3 ∧ I1 = I ∧ F1 = F, ?_, fun k I1 F1 z => Or.inr ⟨z.1, by rw [z.2.1, z.2.2]; exact q⟩, fun _ _ _ z => z.elim⟩) (fun Post q => ?_)
      · unfold wp_CJ_state
        simp only [ev_below, ex3, bi_y c1]
        exact ⟨fun _ => ⟨_, _, ⟨fun z => absurd c2 z, fun _ => ⟨rfl, rfl, rfl⟩⟩, fun _ _ _ q => q, fun _ _ q => q⟩, fun z => absurd z (by decide)⟩
      · show wp_MM_state _ _ _ _
        unfold wp_MM_state
        simp only [ev_within, ex3, bi_y c1', hr, c2, ev_goes2 (show ¬ (1 : Int32) = 0 by decide) (show (0 : Int32) = 0 from rfl)]
        exact ⟨fun z => absurd trivial z, fun _ => q⟩
    · have e1 := bo_ne hb c2
      obtain ⟨A, hA, hB, hS, -, -, hS4⟩ := hrun e1
      have h4 : ¬ J 4 = 0 := by rw [hr]; exact c2
      have hT : ∃ r, (∀ Post : Int32 → SI → SF → Prop, Post r I F → wp_Ma_tell p1 I F Post) ∧ ∀ Post : Int32 → SI → SF → Prop, Post r (va_up J 0 0) G → wp_MM_state p1 J G Post := by
        have hM : ∀ Post : Int32 → SI → SF → Prop, (let I2 := va_up J 0 0; ((p1 = 0 → (((I2 6) ≤ 0 → ((¬ (I2 5) = 0 → (Post 0 I2 G)) ∧ ((I2 5) = 0 → (Post 1 I2 G)))) ∧ (¬ (I2 6) ≤ 0 → (Post (I2 6) I2 G)))) ∧ (p1 = 1 → (Post (I2 7) I2 G)) ∧ (p1 = 2 → (Post (I2 5) I2 G)) ∧ (p1 = 3 → ((¬ (I2 5) = 0 → (vp_in ((I2 5) - 1) 50 ∧ (Post ((G 17) ((I2 5) - 1 : Int32).toNatClampNeg) I2 G))) ∧ ((I2 5) = 0 → (Post (-1) I2 G)))) ∧ (p1 = 4 → ((¬ (I2 5) = 0 → (vp_in ((I2 5) - 1) 50 ∧ (Post ((G 18) ((I2 5) - 1 : Int32).toNatClampNeg) I2 G))) ∧ ((I2 5) = 0 → (Post (-1) I2 G)))) ∧ (p1 = 5 → (Post (I2 8) I2 G)) ∧ (p1 = 6 → (Post (I2 9) I2 G)) ∧ (p1 = 7 → (Post (I2 10) I2 G)) ∧ ((¬ p1 = 0 ∧ ¬ p1 = 1 ∧ ¬ p1 = 2 ∧ ¬ p1 = 3 ∧ ¬ p1 = 4 ∧ ¬ p1 = 5 ∧ ¬ p1 = 6 ∧ ¬ p1 = 7) → (Post (I2 11) I2 G)))) → wp_MM_state p1 J G Post := by
          intro Post q
          unfold wp_MM_state
          simp only [ev_within, ex3, bi_y c1', ev_goes0 (show ¬ (1 : Int32) = 0 by decide) h4 (show ¬ (1 : Int32) = 0 by decide)]
          exact ⟨fun _ => q, fun z => absurd z (by decide)⟩
        have hj5 : va_up J 0 0 5 = nI (A.1 0) := hB.1
        have hj6 : va_up J 0 0 6 = nI (A.1 4) := hB.2.2.2.2.1
        have hfr : A.1 0 ≤ 50 := hS.1
        have em : ∀ w, w ≤ 0 ∨ ¬ w ≤ 0 := fun w => Decidable.em _
        have o4 : A.1 4 ≤ 7 := hS4
        by_cases z0 : p1 = 0
        · subst z0
          refine ⟨I 2, fun Post q => by simp [wp_Ma_tell]; exact q, fun Post q => hM Post ?_⟩
          have hi2 := hA.2.2.2.2.1
          simp only [hj5, hj6]
          simp
          rw [hi2] at q
          refine ⟨fun w => ?_, fun w => ?_⟩
          · have e4 : A.1 4 = 0 := by
              rcases Nat.eq_zero_or_pos (A.1 4) with e | e
              · exact e
              · exact absurd w (nI_nle e (by omega))
            rw [if_pos e4] at q
            refine ⟨fun v => ?_, fun v => ?_⟩
            · rw [if_neg (fun e => v (by rw [e]; rfl))] at q; exact q
            · rw [if_pos ((nI_nz (by omega)).mp v)] at q; exact q
          · have e4 : ¬ A.1 4 = 0 := fun e => Int32.not_le.mpr w (by rw [e]; decide)
            rw [if_neg e4] at q
            exact q
        by_cases z1 : p1 = 1
        · subst z1
          exact ⟨I 3, fun Post q => by simp [wp_Ma_tell]; exact q, fun Post q => hM Post (by rw [hA.2.2.2.2.2.1, ← hB.2.2.2.2.2.1] at q; simp; exact q)⟩
        by_cases z2 : p1 = 2
        · subst z2
          exact ⟨I 9, fun Post q => by simp [wp_Ma_tell]; exact q, fun Post q => hM Post (by rw [hA.1, ← hB.1] at q; simp; exact q)⟩
        by_cases z3 : p1 = 3
        · subst z3
          rcases Nat.eq_zero_or_pos (A.1 0) with e | e
          · refine ⟨-1, fun Post q => ?_, fun Post q => hM Post ?_⟩
            · simp [wp_Ma_tell, wp_Fr_upperMethod]
              exact ⟨_, ⟨fun _ => q, fun z => absurd (show I 9 ≤ 0 by rw [hA.1, e]; decide) (Int32.not_le.mpr z)⟩, fun _ _ _ q => q⟩
            · simp
              exact ⟨fun z => absurd (show va_up J 0 0 5 = 0 by rw [hj5, e]; rfl) z, fun _ => q⟩
          · obtain ⟨f, hf⟩ : ∃ f, A.1 0 = f + 1 := ⟨A.1 0 - 1, by omega⟩
            refine ⟨nI (A.2.1 0 f), fun Post q => ?_, fun Post q => hM Post ?_⟩
            · simp [wp_Ma_tell, c_um (cB_of hA) hf (by omega), ex3]
              exact q
            · simp
              rw [hj5, hf, nI_pred, cl (by omega), (hB.2.2.2.2.2.2.2.1 f (by omega)).1]
              exact ⟨fun _ => ⟨vp_in_nI (by omega) (by decide), q⟩, fun z => absurd z (nI_ne0 (by omega) (by omega))⟩
        by_cases z4 : p1 = 4
        · subst z4
          rcases Nat.eq_zero_or_pos (A.1 0) with e | e
          · refine ⟨-1, fun Post q => ?_, fun Post q => hM Post ?_⟩
            · simp [wp_Ma_tell, wp_Fr_upperPlace]
              exact ⟨_, ⟨fun _ => q, fun z => absurd (show I 9 ≤ 0 by rw [hA.1, e]; decide) (Int32.not_le.mpr z)⟩, fun _ _ _ q => q⟩
            · simp
              exact ⟨fun z => absurd (show va_up J 0 0 5 = 0 by rw [hj5, e]; rfl) z, fun _ => q⟩
          · obtain ⟨f, hf⟩ : ∃ f, A.1 0 = f + 1 := ⟨A.1 0 - 1, by omega⟩
            refine ⟨nI (A.2.1 1 f), fun Post q => ?_, fun Post q => hM Post ?_⟩
            · simp [wp_Ma_tell, c_up (cB_of hA) hf (by omega), ex3]
              exact q
            · simp
              rw [hj5, hf, nI_pred, cl (by omega), (hB.2.2.2.2.2.2.2.1 f (by omega)).2.1]
              exact ⟨fun _ => ⟨vp_in_nI (by omega) (by decide), q⟩, fun z => absurd z (nI_ne0 (by omega) (by omega))⟩
        by_cases z5 : p1 = 5
        · subst z5
          exact ⟨I 4, fun Post q => by simp [wp_Ma_tell]; exact q, fun Post q => hM Post (by rw [hA.2.2.2.2.2.2.1, ← hB.2.2.2.2.2.2.1] at q; simp; exact q)⟩
        by_cases z6 : p1 = 6
        · subst z6
          exact ⟨I 10, fun Post q => by simp [wp_Ma_tell]; exact q, fun Post q => hM Post (by rw [hA.2.1, ← hB.2.1] at q; simp; exact q)⟩
        by_cases z7 : p1 = 7
        · subst z7
          exact ⟨I 11, fun Post q => by simp [wp_Ma_tell]; exact q, fun Post q => hM Post (by rw [hA.2.2.1, ← hB.2.2.1] at q; simp; exact q)⟩
        exact ⟨I 12, fun Post q => by simp [wp_Ma_tell, z0, z1, z2, z3, z4, z5, z6, z7]; exact q, fun Post q => hM Post (by rw [hA.2.2.2.1, ← hB.2.2.2.1] at q; simp [z0, z1, z2, z3, z4, z5, z6, z7]; exact q)⟩
      obtain ⟨r, hr1, hr2⟩ := hT
      refine okI r h0 (fun Post q => ⟨fun r1 I1 F1 => r1 = r ∧ I1 = I ∧ F1 = F, fun _ _ _ => False, ?_, fun _ _ _ z => z.elim, fun r1 I1 F1 z => ?_⟩) (fun Post q => hr2 Post q)
      · unfold wp_CJ_state
        simp only [ev_below, ex3, bi_y c1]
        exact ⟨fun _ => ⟨_, _, ⟨fun _ => ⟨_, hr1 _ ⟨rfl, rfl, rfl⟩, fun _ _ _ q => q⟩, fun z => absurd z c2⟩, fun _ _ _ q => q, fun _ _ q => q⟩, fun z => absurd z (by decide)⟩
      · obtain ⟨rfl, rfl, rfl⟩ := z
        exact q _ (updL_0 _ _)
  · have c1' : ¬ (0 ≤ p1 ∧ p1 ≤ 8) := fun q => c1 (w_b (n := 8) rfl rfl (by decide) q)
    refine failI 1 (by decide) h0 (fun Post q => ⟨fun _ _ _ => False, fun k I1 F1 => k = 2 ∧ I1 = I ∧ F1 = F, ?_, fun k I1 F1 z => Or.inl ⟨z.1, by rw [z.2.1, z.2.2]; exact q⟩, fun _ _ _ z => z.elim⟩) (fun Post q => ?_)
    · unfold wp_CJ_state
      simp only [ev_below, ex3, bi_n c1]
      exact ⟨fun z => absurd trivial z, fun _ => ⟨trivial, trivial, trivial⟩⟩
    · show wp_MM_state _ _ _ _
      unfold wp_MM_state
      simp only [ev_within, ex3, bi_n c1', ev_goes1 (show (0 : Int32) = 0 from rfl)]
      exact ⟨fun z => absurd trivial z, fun _ => q⟩
