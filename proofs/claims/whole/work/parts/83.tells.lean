/-! value, cell, output -/
theorem m1_of (x : Int32) : x < -1 ∨ x = -1 ∨ ∃ j, j < 2 ^ 31 ∧ x = nI j := by
  by_cases h : x < 0
  · by_cases e : x = -1
    · exact Or.inr (Or.inl e)
    · refine Or.inl ?_
      rw [Int32.lt_iff_toInt_lt] at h ⊢
      have e1 : (0 : Int32).toInt = 0 := by decide
      have e2 : (-1 : Int32).toInt = -1 := by decide
      have e3 : ¬ x.toInt = -1 := fun w => e (Int32.toInt_inj.mp (w.trans e2.symm))
      omega
  · exact Or.inr (Or.inr (nI_of h))
theorem m1_neg {x : Int32} (h : x < -1) : x < 0 := Int32.lt_trans h (by decide)
section VA
variable {P : aj_P} {A : am} {I : SI} {F : SF} {J : SI} {G : SF} {Post : Int32 → SI → SF → Prop} {PX : Nat → SI → SF → Prop}
theorem m_v76 {p1 p2 : Int32} (h : Post 0 (va_up J 0 1) G) : wp_MM_value_76 Post p1 p2 J G := by
  unfold wp_MM_value_76 wp_MM_value_77
  simp only [ev_goes1 (show (0 : Int32) = 0 from rfl), ex3]
  exact ⟨fun z => absurd trivial z, fun _ => h⟩
theorem m_v22 {p1 p2 : Int32} (h : Post 0 (va_up J 0 1) G) : wp_MM_value_22 Post p1 p2 J G := y0 (m_v76 h)
end VA
theorem sim_value (n : Nat) (p1 p2 : Int32) (I : SI) (F : SF) (g : Nat → Int64) (J : SI) (G : SF) (hn : n < 512) (h : Rel n I F J G) : wpl_value p1 p2 I F g J G (Rel (n + 1)) := by
  have h0 := h
  obtain ⟨P, hw, hc, hm, hb, hr, hrun⟩ := h
  have fail : (∀ (Post : Int32 → SI → SF → Prop) (PX : Nat → SI → SF → Prop), PX 1 I F → wp_CJ_value p1 p2 I F Post PX) → (∀ Post : Int32 → SI → SF → Prop, Post 0 (va_up J 0 1) G → wp_MM_value p1 p2 J G Post) → wpl_value p1 p2 I F g J G (Rel (n + 1)) := fun a b => failI 1 (by decide) h0 (fun Post q => ⟨fun _ _ _ => False, fun k I1 F1 => k = 1 ∧ I1 = I ∧ F1 = F, a _ _ ⟨rfl, rfl, rfl⟩, fun k I1 F1 z => ⟨z.1, by rw [z.2.1, z.2.2]; exact q⟩, fun _ _ _ z => z.elim⟩) b
  by_cases c1 : I 1 = 0
  · refine fail (fun Post PX q => ⟨fun _ => q, fun z => absurd c1 z⟩) (fun Post q => ?_)
    unfold wp_MM_value
    rw [hr, c1]
    exact y0 (m_v22 q)
  · have e1 := bo_ne hb c1
    have h4 : ¬ J 4 = 0 := by rw [hr]; exact c1
    obtain ⟨A, hA, hB, hS, -⟩ := hrun e1
    have hj5 : J 5 = nI (A.1 0) := hB.1
    have hi9 : I 9 = nI (A.1 0) := hA.1
    rcases Nat.eq_zero_or_pos (A.1 0) with e | e
    · refine fail (fun Post PX q => ⟨fun z => absurd z c1, fun _ => ⟨fun z => absurd (by rw [hi9, e]; rfl) z, fun _ => q⟩⟩) (fun Post q => ?_)
      unfold wp_MM_value
      rw [hj5, e]
      exact ⟨fun _ => m_v22 q, fun _ => ⟨fun _ => m_v22 q, fun z => absurd (by decide) z⟩⟩
    · obtain ⟨f, hf⟩ : ∃ f, A.1 0 = f + 1 := ⟨A.1 0 - 1, by omega⟩
      obtain ⟨f50, m8, mth, -, p120, h15⟩ := a_top hw hS hf
      have hl := (hw _ m8).2.2.2.2.2.1
      have hc4 : I (24 + 10 * A.2.1 0 f) = nI (P.1 (A.2.1 0 f) 4) := (hc _ m8).2.2.2.2.1
      have hm5 : G 5 (A.2.1 0 f) = nI (P.1 (A.2.1 0 f) 4) := (hm _ m8).2.2.2.2.1
      have b17 : G 17 f = nI (A.2.1 0 f) := (hB.2.2.2.2.2.2.2.1 f (by omega)).1
      have b19 : G 19 f = nI (A.2.1 2 f) := (hB.2.2.2.2.2.2.2.1 f (by omega)).2.2.1
      have n9 : ¬ I 9 = 0 := by rw [hi9]; exact nI_ne0 e (by omega)
      have n5 : ¬ nI (A.1 0) ≤ 0 := nI_nle e (by omega)
      have hv50 := vp_in_nI f50 (show 50 < 2 ^ 31 by decide)
      have i5 : J 5 - 1 = nI f := by rw [hj5, hf, nI_pred]
      have cf : (nI f).toNatClampNeg = f := cl (by omega)
      have cm : (nI (A.2.1 0 f)).toNatClampNeg = A.2.1 0 f := cl (by omega)
      have hvm := vp_in_nI m8 (show 8 < 2 ^ 31 by decide)
      -- the class's second half
      have c60 : ∀ (Post : Int32 → SI → SF → Prop) (PX : Nat → SI → SF → Prop), (p1 = 1 → ∀ j, p2 = nI j → j < P.1 (A.2.1 0 f) 4 → Post (A.2.2 1 f j) I F) → ((p1 = 1 → ¬ (¬ p2 < 0 ∧ p2 < nI (P.1 (A.2.1 0 f) 4))) → PX 1 I F) → wp_CJ_value_60 Post PX p1 p2 I F := by
        intro Post PX a b
        refine ⟨fun z => b (fun w => absurd w z), fun z => ?_⟩
        simp only [c_um (cB_of hA) hf f50, ex3, ev_below, cm, hc4]
        refine ⟨hvm, fun w => b (fun _ => bi_0.mp w), fun w => ?_⟩
        obtain ⟨j, hj, rfl⟩ := in_nI rfl (by omega) (bi_1 w)
        simp only [c_lo (cB_of hA) hf f50 (show j < 10 by omega), ex3]
        exact a z j rfl hj
      have v47 : ∀ Post : Int32 → SI → SF → Prop, (p1 = 1 → ¬ p2 < nI (P.1 (A.2.1 0 f) 4)) → Post 0 (va_up J 0 1) G → wp_MM_value_47 Post p1 p2 J G := by
        intro Post a q
        unfold wp_MM_value_47
        rw [i5, cf, b17, cm, hm5]
        exact ⟨fun _ => m_v76 q, fun z => ⟨hv50, hvm, fun _ => m_v76 q, fun w => absurd (Int32.not_le.mp w) (a z)⟩⟩
      by_cases c2 : p1 = 0 ∧ ¬ p2 < 0 ∧ p2 < nI (A.2.1 2 f)
      · obtain ⟨rfl, c3⟩ := c2
        obtain ⟨j, hj, rfl⟩ := in_nI rfl (by omega) c3
        have b20 : G 20 (16 * f + j) = A.2.2 0 f j := (hB.2.2.2.2.2.2.2.1 f (by omega)).2.2.2.2 j hj
        refine okI (A.2.2 0 f j) h0 (fun Post q => ⟨fun r I1 F1 => r = A.2.2 0 f j ∧ I1 = I ∧ F1 = F, fun _ _ _ => False, ?_, fun _ _ _ z => z.elim, fun r I1 F1 z => ?_⟩) (fun Post q => ?_)
        · refine ⟨fun z => absurd z c1, fun _ => ⟨fun _ => ⟨fun z => absurd rfl z, fun _ => ?_⟩, fun z => absurd z n9⟩⟩
          simp only [c_uh (cB_of hA) hf f50, ex3, ev_below, bi_y c3]
          refine y1 ?_
          simp only [c_on (cB_of hA) hf f50 h15 hj, ex3]
          exact ⟨trivial, trivial, trivial⟩
        · obtain ⟨rfl, rfl, rfl⟩ := z
          exact q _ (updL_0 _ _)
        · show wp_MM_value _ _ _ _ _
          unfold wp_MM_value
          rw [hj5]
          refine ⟨fun z => absurd z h4, fun _ => ⟨fun z => absurd z n5, fun _ => ⟨fun z => absurd z c3.1, fun _ => ?_⟩⟩⟩
          refine y1 ⟨fun z => absurd rfl z, fun _ => ?_⟩
          rw [i5, cf, b19]
          refine ⟨hv50, fun _ => ?_, fun z => absurd c3.2 z⟩
          unfold wp_MM_value_72 wp_MM_value_77
          simp only [ev_goes0 (show ¬ (1 : Int32) = 0 by decide) (show ¬ (1 : Int32) = 0 by decide) (show ¬ (1 : Int32) = 0 by decide), ex3]
          have i16' : (16 : Int32) * (va_up J 0 0) 5 - 16 + nI j = nI (16 * f + j) := by
            show (16 : Int32) * J 5 - 16 + nI j = _
            rw [hj5, hf, j16]
          rw [i16', cl (show 16 * f + j < 2 ^ 31 by omega), b20]
          exact ⟨fun _ => ⟨fun z => absurd trivial z, fun _ => ⟨vp_in_nI (show 16 * f + j < 800 by omega) (by decide), q⟩⟩, fun z => absurd z (by decide)⟩
      · by_cases c3 : p1 = 1 ∧ ¬ p2 < 0 ∧ p2 < nI (P.1 (A.2.1 0 f) 4)
        · obtain ⟨rfl, c4⟩ := c3
          obtain ⟨j, hj, rfl⟩ := in_nI rfl (by omega) c4
          have b21 : G 21 (10 * f + j) = A.2.2 1 f j := (hB.2.2.2.2.2.2.2.1 f (by omega)).2.2.2.1 j (by omega)
          refine okI (A.2.2 1 f j) h0 (fun Post q => ⟨fun r I1 F1 => r = A.2.2 1 f j ∧ I1 = I ∧ F1 = F, fun _ _ _ => False, ?_, fun _ _ _ z => z.elim, fun r I1 F1 z => ?_⟩) (fun Post q => ?_)
          · refine ⟨fun z => absurd z c1, fun _ => ⟨fun _ => ⟨fun _ => c60 _ _ (fun _ i ei hi => ?_) (fun w => absurd c4 (w rfl)), fun z => absurd z (by decide)⟩, fun z => absurd z n9⟩⟩
            rw [(nI_eq (by omega) (by omega)).mp ei]
            exact ⟨rfl, rfl, rfl⟩
          · obtain ⟨rfl, rfl, rfl⟩ := z
            exact q _ (updL_0 _ _)
          · show wp_MM_value _ _ _ _ _
            unfold wp_MM_value
            rw [hj5]
            refine ⟨fun z => absurd z h4, fun _ => ⟨fun z => absurd z n5, fun _ => ⟨fun z => absurd z c4.1, fun _ => ?_⟩⟩⟩
            refine y1 ⟨fun _ => ?_, fun z => absurd z (by decide)⟩
            unfold wp_MM_value_47
            rw [i5, cf, b17, cm, hm5]
            refine ⟨fun z => absurd rfl z, fun _ => ⟨hv50, hvm, fun z => absurd z (nI_ge hj (by omega)), fun _ => ?_⟩⟩
            unfold wp_MM_value_72 wp_MM_value_77
            simp only [ev_goes0 (show ¬ (1 : Int32) = 0 by decide) (show ¬ (1 : Int32) = 0 by decide) (show ¬ (1 : Int32) = 0 by decide), ex3]
            have i10' : (10 : Int32) * (va_up J 0 0) 5 - 10 + nI j = nI (10 * f + j) := by
              show (10 : Int32) * J 5 - 10 + nI j = _
              rw [hj5, hf, k10]
            rw [i10', cl (show 10 * f + j < 2 ^ 31 by omega), b21]
            exact ⟨fun _ => ⟨fun _ => ⟨vp_in_nI (show 10 * f + j < 500 by omega) (by decide), q⟩, fun z => absurd z (by decide)⟩, fun z => absurd z (by decide)⟩
        · refine fail (fun Post PX q => ?_) (fun Post q => ?_)
          · have h60 : wp_CJ_value_60 Post PX p1 p2 I F := c60 Post PX (fun e j ej hj => absurd ⟨e, by rw [ej]; exact ⟨nI_pos (by omega), nI_lt hj (by omega)⟩⟩ c3) (fun _ => q)
            refine ⟨fun z => absurd z c1, fun _ => ⟨fun _ => ⟨fun _ => h60, fun z => ?_⟩, fun z => absurd z n9⟩⟩
            simp only [c_uh (cB_of hA) hf f50, ex3, ev_below, bi_n (fun w => c2 ⟨z, w⟩)]
            exact ⟨fun _ => h60, fun z => absurd trivial z⟩
          · unfold wp_MM_value
            rw [hj5]
            refine ⟨fun z => absurd z h4, fun _ => ⟨fun z => absurd z n5, fun _ => ⟨fun _ => m_v22 q, fun z => ?_⟩⟩⟩
            have h47 := v47 Post (fun e w => c3 ⟨e, z, w⟩) q
            refine y1 ⟨fun _ => h47, fun z2 => ?_⟩
            rw [i5, cf, b19]
            exact ⟨hv50, fun w => absurd ⟨z2, z, w⟩ c2, fun _ => h47⟩
section HE
variable {A : am} {I : SI} {F : SF} {Post : Int32 → SI → SF → Prop}
theorem ev_hhas {p : Int32} : wp_He_has p I F Post ↔ Post (bi (¬ p < 0 ∧ p < I 10)) I F := by
  unfold wp_He_has
  simp only [ev_below, ex3]
  exact ⟨fun z => z.2, fun z => ⟨bi_bo, z⟩⟩
theorem c_hhas {a : Nat} (hA : cB A I F) (hH : aH A) (ha : a < A.1 1) : wp_He_has (nI a) I F Post ↔ Post 1 I F := by
  have := hH.1
  rw [ev_hhas, bi_y ⟨nI_pos (by omega), by rw [hA.2.1]; exact nI_lt ha (by omega)⟩]
theorem c_hhasn {p : Int32} (hA : cB A I F) (hH : aH A) (ha : ¬ vp_in p (A.1 1)) : wp_He_has p I F Post ↔ Post 0 I F := by
  have := hH.1
  rw [ev_hhas, bi_n (fun w => ha ((vin_b (by omega)).mpr (by rw [hA.2.1] at w; exact w)))]
theorem c_hlen {a : Nat} (hA : cB A I F) (ha : a < A.1 1) : F 20 a = nI (A.2.1 4 a) ∧ F 19 a = nI (A.2.1 3 a) := ⟨(hA.2.2.2.2.2.1 a ha).2, (hA.2.2.2.2.2.1 a ha).1⟩
theorem c_hcell {a : Nat} {p : Int32} (hA : cB A I F) (hH : aH A) (ha : a < A.1 1) : wp_He_hasCell (nI a) p I F Post ↔ Post (bi (¬ p < 0 ∧ p < nI (A.2.1 4 a))) I F := by
  have h1 := hH.1
  unfold wp_He_hasCell
  simp only [c_hhas hA hH ha, ex3, ev_below, cl (show a < 2 ^ 31 by omega), (c_hlen hA ha).1]
  by_cases q : ¬ p < 0 ∧ p < nI (A.2.1 4 a)
  · rw [bi_y q]
    exact ⟨fun z => ((z.2 (by decide)).2).2 (by decide), fun z => y1 ⟨vp_in_nI (show a < 200 by omega) (by decide), y1 z⟩⟩
  · rw [bi_n q]
    exact ⟨fun z => ((z.2 (by decide)).2).1 rfl, fun z => y1 ⟨vp_in_nI (show a < 200 by omega) (by decide), y0 z⟩⟩
theorem c_hcelln {p q : Int32} (hA : cB A I F) (hH : aH A) (ha : ¬ vp_in p (A.1 1)) : wp_He_hasCell p q I F Post ↔ Post 0 I F := by
  unfold wp_He_hasCell
  simp only [c_hhasn hA hH ha, ex3]
  exact ⟨fun z => z.1 trivial, fun z => ⟨fun _ => z, fun w => absurd trivial w⟩⟩
theorem c_hlenOf {a : Nat} (hA : cB A I F) (hH : aH A) (ha : a < A.1 1) : wp_He_lengthOf (nI a) I F Post ↔ Post (nI (A.2.1 4 a)) I F := by
  have h1 := hH.1
  unfold wp_He_lengthOf
  simp only [c_hhas hA hH ha, ex3, cl (show a < 2 ^ 31 by omega), (c_hlen hA ha).1]
  exact ⟨fun z => (z.2 (by decide)).2, fun z => y1 ⟨vp_in_nI (show a < 200 by omega) (by decide), z⟩⟩
theorem c_hread {a j : Nat} (hA : cB A I F) (hH : aH A) (ha : a < A.1 1) (hj : j < A.2.1 4 a) : wp_He_read (nI a) (nI j) I F Post ↔ Post (A.2.2 2 0 (A.2.1 3 a + j)) I F := by
  have h1 := hH.1
  have h2 := hH.2.1
  have h3 := hH.2.2 a ha
  have e : F 21 (A.2.1 3 a + j) = A.2.2 2 0 (A.2.1 3 a + j) := hA.2.2.2.2.2.2.1 _ (by omega)
  unfold wp_He_read
  simp only [c_hcell hA hH ha, ex3, bi_y (show ¬ nI j < 0 ∧ nI j < nI (A.2.1 4 a) from ⟨nI_pos (by omega), nI_lt hj (by omega)⟩), cl (show a < 2 ^ 31 by omega), (c_hlen hA ha).2, nI_add, cl (show A.2.1 3 a + j < 2 ^ 31 by omega), e]
  exact ⟨fun z => (z.2 (by decide)).2.2, fun z => y1 ⟨vp_in_nI (show a < 200 by omega) (by decide), vp_in_nI (show A.2.1 3 a + j < 2000 by omega) (by decide), z⟩⟩
end HE
theorem sim_cell (n : Nat) (p1 p2 : Int32) (I : SI) (F : SF) (g : Nat → Int64) (J : SI) (G : SF) (hn : n < 512) (h : Rel n I F J G) : wpl_cell p1 p2 I F g J G (Rel (n + 1)) := by
  have h0 := h
  obtain ⟨P, hw, hc, hm, hb, hr, hrun⟩ := h
  have fail : (∀ (Post : Int32 → SI → SF → Prop) (PX : Nat → SI → SF → Prop), PX 1 I F → wp_CJ_cell p1 p2 I F Post PX) → (∀ Post : Int32 → SI → SF → Prop, Post 0 (va_up J 0 1) G → wp_MM_cell p1 p2 J G Post) → wpl_cell p1 p2 I F g J G (Rel (n + 1)) := fun a b => failI 1 (by decide) h0 (fun Post q => ⟨fun _ _ _ => False, fun k I1 F1 => k = 1 ∧ I1 = I ∧ F1 = F, a _ _ ⟨rfl, rfl, rfl⟩, fun k I1 F1 z => ⟨z.1, by rw [z.2.1, z.2.2]; exact q⟩, fun _ _ _ z => z.elim⟩) b
  have m48 : ∀ Post : Int32 → SI → SF → Prop, Post 0 (va_up J 0 1) G → wp_MM_cell_48 Post p1 p2 J G := by
    intro Post q
    unfold wp_MM_cell_48 wp_MM_cell_49
    simp only [ev_goes1 (show (0 : Int32) = 0 from rfl), ex3]
    exact ⟨fun z => absurd trivial z, fun _ => q⟩
  have m23 : ∀ Post : Int32 → SI → SF → Prop, Post 0 (va_up J 0 1) G → wp_MM_cell_23 Post p1 p2 J G := fun Post q => y0 (m48 Post q)
  by_cases c1 : I 1 = 0
  · refine fail (fun Post PX q => ⟨fun _ => q, fun z => absurd c1 z⟩) (fun Post q => ?_)
    unfold wp_MM_cell
    rw [hr, c1]
    exact y0 (m23 Post q)
  · have e1 := bo_ne hb c1
    have h4 : ¬ J 4 = 0 := by rw [hr]; exact c1
    obtain ⟨A, hA0, hB, hS, -⟩ := hrun e1
    have hA := cB_of hA0
    have hH := hS.2.1
    have hh1 := hH.1
    have hh2 := hH.2.1
    have hj9 : J 9 = nI (A.1 1) := hB.2.1
    by_cases c2 : vp_in p1 (A.1 1)
    · obtain ⟨a, ha, rfl⟩ := vp_in_of c2 (by omega)
      have hh3 := hH.2.2 a ha
      have b22 : G 22 a = nI (A.2.1 3 a) := (hB.2.2.2.2.2.2.2.2.1 a ha).1
      have b23 : G 23 a = nI (A.2.1 4 a) := (hB.2.2.2.2.2.2.2.2.1 a ha).2
      have ca : (nI a).toNatClampNeg = a := cl (by omega)
      have hva := vp_in_nI (show a < 201 by omega) (show 201 < 2 ^ 31 by decide)
      have m24 : ∀ Post : Int32 → SI → SF → Prop, wp_MM_cell_24 Post (nI a) p2 1 J G → wp_MM_cell (nI a) p2 J G Post := by
        intro Post q
        unfold wp_MM_cell
        rw [hj9]
        exact ⟨fun z => absurd z h4, fun _ => ⟨fun z => absurd z (nI_pos (by omega)), fun _ => ⟨fun z => absurd z (nI_ge ha (by omega)), fun _ => q⟩⟩⟩
      have good : ∀ (r : Int32), (∀ (Post : Int32 → SI → SF → Prop) (PX : Nat → SI → SF → Prop), Post r I F → wp_CJ_cell (nI a) p2 I F Post PX) → (∀ Post : Int32 → SI → SF → Prop, Post r (va_up J 0 0) G → wp_MM_cell_24 Post (nI a) p2 1 J G) → wpl_cell (nI a) p2 I F g J G (Rel (n + 1)) := by
        intro r x y
        refine okI r h0 (fun Post q => ⟨fun r1 I1 F1 => r1 = r ∧ I1 = I ∧ F1 = F, fun _ _ _ => False, x _ _ ⟨rfl, rfl, rfl⟩, fun _ _ _ z => z.elim, fun r1 I1 F1 z => ?_⟩) (fun Post q => m24 Post (y Post q))
        obtain ⟨rfl, rfl, rfl⟩ := z
        exact q _ (updL_0 _ _)
      rcases m1_of p2 with c3 | rfl | ⟨j, hj, rfl⟩
      · refine fail (fun Post PX q => ⟨fun z => absurd z c1, fun _ => ?_⟩) (fun Post q => m24 Post ?_)
        · simp only [c_hhas hA hH ha, ex3]
          refine z1 ⟨fun _ => ?_, fun z => ?_⟩
          · simp only [c_hcell hA hH ha, ex3, bi_n (fun w : ¬ p2 < 0 ∧ p2 < nI (A.2.1 4 a) => w.1 (m1_neg c3))]
            exact ⟨fun z => absurd trivial z, fun _ => q⟩
          · rw [z] at c3; exact absurd c3 (by decide)
        · exact y1 ⟨fun _ => m48 Post q, fun z => absurd c3 z⟩
      · refine good (nI (A.2.1 4 a)) (fun Post PX q => ⟨fun z => absurd z c1, fun _ => ?_⟩) (fun Post q => ?_)
        · simp only [c_hhas hA hH ha, ex3]
          refine z1 ⟨fun z => absurd trivial z, fun _ => ?_⟩
          simp only [c_hlenOf hA hH ha, ex3]
          exact q
        · unfold wp_MM_cell_24
          rw [ca, b23]
          refine y1 ⟨fun z => absurd z (by decide), fun _ => ⟨hva, fun z => absurd (Int32.le_trans (nI_pos' (show A.2.1 4 a < 2 ^ 31 by omega)) z) (by decide), fun _ => ?_⟩⟩
          unfold wp_MM_cell_49
          simp only [ev_goes0 (show ¬ (1 : Int32) = 0 by decide) (show ¬ (1 : Int32) = 0 by decide) (show ¬ (1 : Int32) = 0 by decide), ex3, ca, b23]
          exact ⟨fun _ => ⟨fun z => absurd trivial z, fun _ => ⟨hva, q⟩⟩, fun z => absurd z (by decide)⟩
      · have jm : ¬ nI j = -1 := nI_m1 hj
        by_cases c4 : j < A.2.1 4 a
        · refine good (A.2.2 2 0 (A.2.1 3 a + j)) (fun Post PX q => ⟨fun z => absurd z c1, fun _ => ?_⟩) (fun Post q => ?_)
          · simp only [c_hhas hA hH ha, ex3]
            refine z1 ⟨fun _ => ?_, fun z => absurd z jm⟩
            simp only [c_hcell hA hH ha, ex3, bi_y (show ¬ nI j < 0 ∧ nI j < nI (A.2.1 4 a) from ⟨nI_pos hj, nI_lt c4 (by omega)⟩)]
            refine z1 ?_
            simp only [c_hread hA hH ha c4, ex3]
            exact q
          · unfold wp_MM_cell_24
            rw [ca, b23]
            have b24 : G 24 (A.2.1 3 a + j) = A.2.2 2 0 (A.2.1 3 a + j) := hB.2.2.2.2.2.2.2.2.2.1 _ (by omega)
            refine y1 ⟨fun z => absurd (m1_neg z) (nI_pos hj), fun _ => ⟨hva, fun z => absurd z (nI_ge c4 (by omega)), fun _ => ?_⟩⟩
            unfold wp_MM_cell_49
            simp only [ev_goes0 (show ¬ (1 : Int32) = 0 by decide) (show ¬ (1 : Int32) = 0 by decide) (show ¬ (1 : Int32) = 0 by decide), ex3, ca, b22, nI_add, cl (show A.2.1 3 a + j < 2 ^ 31 by omega), b24]
            exact ⟨fun _ => ⟨fun _ => ⟨hva, vp_in_nI (show A.2.1 3 a + j < 2000 by omega) (by decide), q⟩, fun z => absurd z jm⟩, fun z => absurd z (by decide)⟩
        · refine fail (fun Post PX q => ⟨fun z => absurd z c1, fun _ => ?_⟩) (fun Post q => m24 Post ?_)
          · simp only [c_hhas hA hH ha, ex3]
            refine z1 ⟨fun _ => ?_, fun z => absurd z jm⟩
            simp only [c_hcell hA hH ha, ex3, bi_n (fun w : ¬ nI j < 0 ∧ nI j < nI (A.2.1 4 a) => c4 ((nI_ltI hj (by omega)).mp w.2))]
            exact ⟨fun z => absurd trivial z, fun _ => q⟩
          · unfold wp_MM_cell_24
            rw [ca, b23]
            exact y1 ⟨fun _ => m48 Post q, fun _ => ⟨hva, fun _ => m48 Post q, fun z => absurd (nI_le (by omega) hj) z⟩⟩
    · refine fail (fun Post PX q => ⟨fun z => absurd z c1, fun _ => ?_⟩) (fun Post q => ?_)
      · simp only [c_hhasn hA hH c2, ex3]
        exact ⟨fun z => absurd trivial z, fun _ => q⟩
      · unfold wp_MM_cell
        rw [hj9]
        exact ⟨fun _ => m23 Post q, fun _ => ⟨fun _ => m23 Post q, fun z => ⟨fun _ => m23 Post q, fun z2 => absurd ((vin_b (by omega)).mpr ⟨z, Int32.not_le.mp z2⟩) c2⟩⟩⟩
theorem x100 {j : Nat} (h : j < 2 ^ 31) : 0 ≤ (nI j ^^^ (100 : Int32)) := by
  rw [show (100 : Int32) = nI 100 from rfl, nx_xor]
  exact nI_pos' (Nat.xor_lt_two_pow h (by decide))
theorem r100 {j : Nat} (h : j < 2 ^ 31) : nI j - nI j / 100 * 100 = nI (j % 100) := pk_rem h (by decide) (by decide)
theorem ev_fm {j : Nat} {I : SI} {F : SF} {Post : Int32 → SI → SF → Prop} (h : j < 2 ^ 31) : wp_MT_floorMod (nI j) 100 I F Post ↔ Post (nI (j % 100)) I F := by
  unfold wp_MT_floorMod
  rw [r100 h]
  exact ⟨fun q => (q.2 _ rfl).1 (x100 h), fun q => ⟨by decide, fun x2 e2 => ⟨fun _ => by rw [e2]; exact q, fun z => absurd (x100 h) z⟩⟩⟩
theorem sim_output (n : Nat) (p1 : Int32) (I : SI) (F : SF) (g : Nat → Int64) (J : SI) (G : SF) (hn : n < 512) (h : Rel n I F J G) : wpl_output p1 I F g J G (Rel (n + 1)) := by
  have h0 := h
  obtain ⟨P, hw, hc, hm, hb, hr, hrun⟩ := h
  have fail : (∀ (Post : Int32 → SI → SF → Prop) (PX : Nat → SI → SF → Prop), PX 1 I F → wp_CJ_output p1 I F Post PX) → (∀ Post : Int32 → SI → SF → Prop, Post 0 (va_up J 0 1) G → wp_MM_output p1 J G Post) → wpl_output p1 I F g J G (Rel (n + 1)) := fun a b => failI 1 (by decide) h0 (fun Post q => ⟨fun _ _ _ => False, fun k I1 F1 => k = 1 ∧ I1 = I ∧ F1 = F, a _ _ ⟨rfl, rfl, rfl⟩, fun k I1 F1 z => ⟨z.1, by rw [z.2.1, z.2.2]; exact q⟩, fun _ _ _ z => z.elim⟩) b
  have m35 : ∀ Post : Int32 → SI → SF → Prop, Post 0 (va_up J 0 1) G → wp_MM_output_35 Post p1 J G := by
    intro Post q
    unfold wp_MM_output_35 wp_MM_output_36
    simp only [ev_goes1 (show (0 : Int32) = 0 from rfl), ex3]
    exact ⟨fun _ => q, fun z => absurd trivial z⟩
  by_cases c1 : I 1 = 0
  · refine fail (fun Post PX q => ⟨fun _ => q, fun z => absurd c1 z⟩) (fun Post q => ?_)
    unfold wp_MM_output
    rw [hr, c1]
    exact y0 (m35 Post q)
  · have e1 := bo_ne hb c1
    have h4 : ¬ J 4 = 0 := by rw [hr]; exact c1
    obtain ⟨A, hA, hB, hS, s1, s2, -⟩ := hrun e1
    have hi12 : I 12 = nI (A.1 3) := hA.2.2.2.1
    have hj11 : J 11 = nI (A.1 3) := hB.2.2.2.1
    have ek : ∀ Post : Int32 → SI → SF → Prop, (wp_Ou_keeps p1 I F Post ↔ Post (bi ((¬ p1 < 0 ∧ p1 < nI (A.1 3)) ∧ ¬ p1 < nI (A.1 3) - 100)) I F) := by
      intro Post
      unfold wp_Ou_keeps
      simp only [ev_below, ex3, hi12]
      by_cases q : ¬ p1 < 0 ∧ p1 < nI (A.1 3)
      · by_cases q2 : p1 < nI (A.1 3) - 100
        · rw [bi_y q, bi_n (fun w => w.2 q2)]
          exact ⟨fun z => (z.2 (by decide)).1 q2, fun z => y1 ⟨fun _ => z, fun w => absurd q2 w⟩⟩
        · rw [bi_y q, bi_y ⟨q, q2⟩]
          exact ⟨fun z => (z.2 (by decide)).2 q2, fun z => y1 ⟨fun w => absurd w q2, fun _ => z⟩⟩
      · rw [bi_n q, bi_n (fun w => q w.1)]
        exact ⟨fun z => z.1 rfl, fun z => y0 z⟩
    by_cases c2 : (¬ p1 < 0 ∧ p1 < nI (A.1 3)) ∧ ¬ p1 < nI (A.1 3) - 100
    · obtain ⟨j, hj, rfl⟩ := in_nI rfl (by omega) c2.1
      have hlt : j % 100 < 100 := Nat.mod_lt _ (by decide)
      have hle : j % 100 ≤ j := Nat.mod_le _ _
      have ef : F 22 (j % 100) = A.2.2 3 0 (j % 100) := hA.2.2.2.2.2.2.2.2.2.2 _ hlt (by omega)
      have eg : G 25 (j % 100) = A.2.2 3 0 (j % 100) := hB.2.2.2.2.2.2.2.2.2.2 _ hlt (by omega)
      have hv := vp_in_nI hlt (show 100 < 2 ^ 31 by decide)
      refine okI (A.2.2 3 0 (j % 100)) h0 (fun Post q => ⟨fun r1 I1 F1 => r1 = A.2.2 3 0 (j % 100) ∧ I1 = I ∧ F1 = F, fun _ _ _ => False, ⟨fun z => absurd z c1, fun _ => ?_⟩, fun _ _ _ z => z.elim, fun r1 I1 F1 z => ?_⟩) (fun Post q => ?_)
      · simp only [ek, ex3, bi_y c2]
        refine z1 ?_
        unfold wp_Ou_read
        simp only [ek, ex3, bi_y c2, ev_fm (show j < 2 ^ 31 by omega), cl (show j % 100 < 2 ^ 31 by omega), ef]
        exact ⟨fun r1 I1 F1 => r1 = A.2.2 3 0 (j % 100) ∧ I1 = I ∧ F1 = F, y1 ⟨hv, rfl, rfl, rfl⟩, fun _ _ _ q => q⟩
      · obtain ⟨rfl, rfl, rfl⟩ := z
        exact q _ (updL_0 _ _)
      · show wp_MM_output _ _ _ _
        unfold wp_MM_output wp_MM_output_36
        rw [hj11]
        simp only [ev_goes0 (show ¬ (1 : Int32) = 0 by decide) (show ¬ (1 : Int32) = 0 by decide) (show ¬ (1 : Int32) = 0 by decide), ex3, r100 (show j < 2 ^ 31 by omega), cl (show j % 100 < 2 ^ 31 by omega), eg]
        refine ⟨fun z => absurd z h4, fun _ => ⟨fun z => absurd z c2.1.1, fun _ => ⟨fun z => absurd z (nI_ge hj (by omega)), fun _ => ⟨fun z => absurd z c2.2, fun _ => ⟨fun z => absurd z (by decide), fun _ => ⟨by decide, hv, q⟩⟩⟩⟩⟩⟩
    · refine fail (fun Post PX q => ⟨fun z => absurd z c1, fun _ => ?_⟩) (fun Post q => ?_)
      · simp only [ek, ex3, bi_n c2]
        exact ⟨fun z => absurd trivial z, fun _ => q⟩
      · unfold wp_MM_output
        rw [hj11]
        exact ⟨fun _ => m35 Post q, fun _ => ⟨fun _ => m35 Post q, fun z => ⟨fun _ => m35 Post q, fun z2 => ⟨fun _ => m35 Post q, fun z3 => absurd ⟨⟨z, Int32.not_le.mp z2⟩, z3⟩ c2⟩⟩⟩⟩
