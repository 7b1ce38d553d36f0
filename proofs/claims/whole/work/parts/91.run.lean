/-! run -/
section RU
variable {P : aj_P} {A : am} {I : SI} {F : SF} {J : SI} {G : SF} {s r : Nat}
theorem aS_5 (h : aS P A) : aS P (va_up A.1 5 s, A.2) := by
  obtain ⟨a, b, g, c, d⟩ := h
  exact ⟨a, b, g, c, d⟩
theorem aS_4 (h : aS P A) : aS P (va_up A.1 4 s, A.2) := by
  obtain ⟨a, b, g, c, d⟩ := h
  exact ⟨a, b, g, c, d⟩
theorem cB_5 (h : cB A I F) : cB (va_up A.1 5 s, A.2) I F := h
theorem cB_4 (h : cB A I F) : cB (va_up A.1 4 s, A.2) I F := h
theorem mB_5 (h : mB A J G) : mB (va_up A.1 5 s, A.2) J G := h
theorem mB_4 (h : mB A J G) : mB (va_up A.1 4 s, A.2) J G := h
/-- behind some steps: the class's rows, the reference's -/
def cU (P : aj_P) (A : am) (I0 : SI) (I : SI) (F : SF) : Prop := cR A I F ∧ cT P I F ∧ I 1 = I0 1
def mU (P : aj_P) (A : am) (J0 : SI) (e : Nat) (J : SI) (G : SF) : Prop := mB A J G ∧ mT P G ∧ J 0 = J0 0 ∧ J 4 = J0 4 ∧ J 6 = nI (A.1 4) ∧ J 7 = J0 7 + nI e ∧ J 8 = A.2.2 4 0 0
theorem run_both {N : Nat} (hw : wfP P) (hN : N ≤ 2000) : ∀ (d : Nat) {t : Nat} {A : am}, aS P A → A.1 4 ≤ 7 → A.1 3 + d < 2 ^ 30 → A.1 5 + d < 2 ^ 31 → t + d = N → ∃ (A' : am) (e : Nat), aS P A' ∧ A'.1 4 ≤ 7 ∧ A'.1 5 ≤ A.1 5 + d ∧ (A.1 3 ≤ A.1 5 → A'.1 3 ≤ A'.1 5) ∧ A'.1 5 + t = A.1 5 + e ∧ e ≤ N ∧ (∀ (I : SI) (F : SF), cR A I F → cT P I F → ∀ Post : Int32 → SI → SF → Prop, (∀ I' F', cU P A' I I' F' → Post (nI e) I' F') → wp_Ma_advance_2 Post (d + 1) (nI N) (nI t) I F) ∧ ∀ (J : SI) (G : SF), mB A J G → mT P G → J 6 = nI (A.1 4) → J 8 = A.2.2 4 0 0 → ∀ Post : Int32 → SI → SF → Prop, (∀ J' G', mU P A' J e J' G' → Post (nI e) J' G') → wp_MM_run_24 Post (d + 2) (nI N) (nI t) J G := by
  -- it ends here
  have stop : ∀ (d t : Nat) (A : am), t + d = N → aS P A → A.1 4 ≤ 7 → (d = 0 ∨ ¬ A.1 4 = 0 ∨ A.1 0 = 0) → (∀ (I : SI) (F : SF), cR A I F → cT P I F → ∀ Post : Int32 → SI → SF → Prop, (∀ I' F', cU P A I I' F' → Post (nI t) I' F') → wp_Ma_advance_2 Post (d + 1) (nI N) (nI t) I F) ∧ ∀ (J : SI) (G : SF), mB A J G → mT P G → J 6 = nI (A.1 4) → J 8 = A.2.2 4 0 0 → ∀ (k : Nat) (Post : Int32 → SI → SF → Prop), (∀ J' G', mU P A J t J' G' → Post (nI t) J' G') → wp_MM_run_24 Post (k + 1) (nI N) (nI t) J G := by
    intro d t A ht hS h7 hst
    have h50 := hS.1
    constructor
    · intro I F hA hT Post h
      have fin : Post (nI t) I F := h I F ⟨hA, hT, rfl⟩
      have h2 := hA.2.2.2.2.1
      unfold wp_Ma_advance_2
      refine ⟨fun _ => fin, fun z => ⟨fun _ => fin, fun z2 => ?_⟩⟩
      rcases hst with e | e | e
      · exact absurd (nI_le (by omega) (by omega)) z
      · rw [h2, if_neg e] at z2
        exact absurd z2 (nI_ne0 (by omega) (by omega))
      · rw [h2] at z2
        by_cases w : A.1 4 = 0
        · rw [if_pos w, if_pos e] at z2
          exact absurd z2 (by decide)
        · rw [if_neg w] at z2
          exact absurd z2 (nI_ne0 (by omega) (by omega))
    · intro J G hB hT j6 j8 k Post h
      have fin : wp_MM_run_113 Post (nI t) J G := h _ _ ⟨mB_I (J := J) hB rfl rfl rfl rfl, hT, rfl, rfl, j6, rfl, j8⟩
      unfold wp_MM_run_24
      refine ⟨fun _ => fin, fun z => ⟨fun _ => fin, fun z2 => ⟨fun _ => fin, fun z3 => ?_⟩⟩⟩
      rcases hst with e | e | e
      · exact absurd (nI_le (by omega) (by omega)) z
      · rw [j6] at z3
        exact absurd z3 (nI_ne0 (by omega) (by omega))
      · rw [hB.1, e] at z2
        exact absurd (by decide) z2
  intro d
  induction d with
  | zero =>
    intro t A hS h7 h3 h5 ht
    obtain ⟨s1, s2⟩ := stop 0 t A ht hS h7 (Or.inl rfl)
    exact ⟨A, t, hS, h7, by omega, id, rfl, by omega, s1, fun J G hB hT j6 j8 Post h => s2 J G hB hT j6 j8 1 Post h⟩
  | succ d ih =>
    intro t A hS h7 h3 h5 ht
    by_cases hst : ¬ A.1 4 = 0 ∨ A.1 0 = 0
    · obtain ⟨s1, s2⟩ := stop (d + 1) t A ht hS h7 (Or.inr hst)
      exact ⟨A, t, hS, h7, by omega, id, rfl, by omega, s1, fun J G hB hT j6 j8 Post h => s2 J G hB hT j6 j8 (d + 2) Post h⟩
    · have h4 : A.1 4 = 0 := Classical.byContradiction (fun w => hst (Or.inl w))
      have h0 : ¬ A.1 0 = 0 := fun w => hst (Or.inr w)
      obtain ⟨f, hf⟩ : ∃ f, A.1 0 = f + 1 := ⟨A.1 0 - 1, by omega⟩
      obtain ⟨m8, p120, f50, r, r7, tm, tc, tb⟩ := st_all hw hS hf (by omega) rfl rfl
      have hv50 := vp_in_nI f50 (show 50 < 2 ^ 31 by decide)
      have hnt : ¬ nI N ≤ nI t := nI_ge (by omega) (by omega)
      have hvi := vp_in_nI (show 120 * A.2.1 0 f + A.2.1 1 f < 960 by omega) (show 960 < 2 ^ 31 by decide)
      -- the reference's way to the order
      have mgo : ∀ (J : SI) (G : SF), mB A J G → mT P G → J 6 = 0 → ∀ (k : Nat) (Post : Int32 → SI → SF → Prop), (∃ P11 : Int32 → SI → SF → Prop, wp_MM_troubleOf (nI (P.2.1 (A.2.1 0 f) (A.2.1 1 f))) J G P11 ∧ ∀ r11 I11 F11, P11 r11 I11 F11 → ((¬ r11 = 0 → wp_MM_run_24 Post k (nI N) (nI t) (va_up I11 6 r11) F11) ∧ (r11 = 0 → (∃ P15 : SI → SF → Prop, wp_MM_step ((F11 8) (120 * A.2.1 0 f + A.2.1 1 f)) ((F11 9) (120 * A.2.1 0 f + A.2.1 1 f)) (va_up I11 6 r11) F11 P15 ∧ ∀ I15 F15, P15 I15 F15 → wp_MM_run_24 Post k (nI N) (nI (t + 1)) I15 F15)))) → wp_MM_run_24 Post (k + 1) (nI N) (nI t) J G := by
        intro J G hB hT j6 k Post h
        have e17 : G 17 f = nI (A.2.1 0 f) := (hB.2.2.2.2.1 f (by omega)).1
        have e18 : G 18 f = nI (A.2.1 1 f) := (hB.2.2.2.2.1 f (by omega)).2.1
        unfold wp_MM_run_24 wp_MM_run_110
        rw [hB.1, hf, nI_pred, cl (show f < 2 ^ 31 by omega), e17, e18, i120]
        refine ⟨fun z => absurd z hnt, fun _ => ⟨fun z => absurd z (nI_nle (by omega) (by omega)), fun _ => ⟨fun z => absurd j6 z, fun _ => ⟨hv50, hv50, fun x9 e9 => ?_⟩⟩⟩⟩
        subst e9
        rw [cl (show 120 * A.2.1 0 f + A.2.1 1 f < 2 ^ 31 by omega), m_ord hT m8 p120]
        obtain ⟨P11, q1, q2⟩ := h
        refine ⟨hvi, P11, q1, fun r11 I11 F11 q => ⟨(q2 r11 I11 F11 q).1, fun z => ⟨hvi, hvi, ?_⟩⟩⟩
        obtain ⟨P15, w1, w2⟩ := (q2 r11 I11 F11 q).2 z
        refine ⟨P15, w1, fun I15 F15 w x16 e16 => ?_⟩
        subst e16
        rw [nI_1]
        exact w2 I15 F15 w
      by_cases hr : r = 0
      · subst hr
        obtain ⟨A1, b1, b2, b3, b4, b5, b6⟩ := tb rfl
        have hS1 : aS P (va_up A1.1 5 (A.1 5 + 1), A1.2) := aS_5 b1
        obtain ⟨A', e, i1, i2, i3, i4, i5, i6, i7, i8⟩ := ih (t := t + 1) hS1 (by show A1.1 4 ≤ 7; omega) (by show A1.1 3 + d < 2 ^ 30; omega) (by show A.1 5 + 1 + d < 2 ^ 31; omega) (by omega)
        have i3 : A'.1 5 ≤ A.1 5 + 1 + d := i3
        have i4 : A1.1 3 ≤ A.1 5 + 1 → A'.1 3 ≤ A'.1 5 := i4
        have i5 : A'.1 5 + (t + 1) = A.1 5 + 1 + e := i5
        refine ⟨A', e, i1, i2, by omega, fun w => i4 (by omega), by omega, i6, fun I F hA hT Post h => ?_, fun J G hB hT j6 j8 Post h => ?_⟩
        · have h2 := hA.2.2.2.2.1
          rw [if_pos h4, if_neg h0] at h2
          unfold wp_Ma_advance_2
          refine ⟨fun z => absurd z hnt, fun _ => ⟨fun z => absurd h2 z, fun _ => ⟨_, b5 I F (cB_of hA) hT hA.2.2.2.2.2.2.1 _ ?_, fun _ _ _ q => q⟩⟩⟩
          intro I3 F3 z3
          obtain ⟨z1, z2, z3, z4, z5, z6⟩ := z3
          refine y1 (fun x5 e5 => ?_)
          subst e5
          rw [nI_1]
          refine i7 I3 F3 (cR_mk (cB_5 z1) ?_ ?_ z6) z2 Post (fun I' F' u => h I' F' ⟨u.1, u.2.1, u.2.2.trans z3⟩)
          · show I3 2 = if A1.1 4 = 0 then (if A1.1 0 = 0 then 1 else 0) else nI (A1.1 4)
            rw [if_pos (by omega)]
            exact z4
          · show I3 3 = nI (A.1 5 + 1)
            rw [z5, hA.2.2.2.2.2.1, nI_1]
        · rw [h4] at j6
          refine mgo J G hB hT j6 (d + 2) Post ⟨_, tm J G hB _ ?_, fun _ _ _ q => q⟩
          refine ⟨fun z => absurd rfl z, fun _ => ?_⟩
          rw [m_ord hT m8 p120, m_num hT m8 p120]
          refine ⟨_, b6 J G hB hT j8 _ ?_, fun _ _ q => q⟩
          intro J3 G3 z3
          obtain ⟨z1, z2, z3, z4, z5, z6, z7⟩ := z3
          refine i8 J3 G3 (mB_5 z1) z2 (by show J3 6 = nI (A1.1 4); rw [b3, h4]; exact z5) z7 Post (fun J' G' u => h J' G' ?_)
          obtain ⟨u1, u2, u3, u4, u5, u6, u7⟩ := u
          exact ⟨u1, u2, u3.trans z3, u4.trans z4, u5, by rw [u6, z6], u7⟩
      · refine ⟨(va_up A.1 4 r, A.2), t, aS_4 hS, r7, by show A.1 5 ≤ _; omega, id, rfl, by omega, fun I F hA hT Post h => ?_, fun J G hB hT j6 j8 Post h => ?_⟩
        · have h2 := hA.2.2.2.2.1
          rw [if_pos h4, if_neg h0] at h2
          unfold wp_Ma_advance_2
          refine ⟨fun z => absurd z hnt, fun _ => ⟨fun z => absurd h2 z, fun _ => ⟨_, tc hr I F (cB_of hA) hT _ ?_, fun _ _ _ q => q⟩⟩⟩
          refine y0 (h _ _ ⟨cR_mk (cB_4 (cB_I (cB_of hA) (fun i h8 _ => va_up_ne _ _ (by omega)))) ?_ hA.2.2.2.2.2.1 hA.2.2.2.2.2.2.1, cT_f (i := 2) (by decide) hT, rfl⟩)
          show nI r = if r = 0 then _ else nI r
          rw [if_neg hr]
        · rw [h4] at j6
          have hst := (stop (d + 1) t (va_up A.1 4 r, A.2) ht (aS_4 hS) r7 (Or.inr (Or.inl hr))).2
          refine mgo J G hB hT j6 (d + 2) Post ⟨_, tm J G hB _ ?_, fun _ _ _ q => q⟩
          refine ⟨fun _ => hst (va_up J 6 (nI r)) G (mB_4 (mB_I hB rfl rfl rfl rfl)) hT rfl j8 (d + 1) Post (fun J' G' u => h J' G' u), fun z => absurd z (nI_ne0 (by omega) (by omega))⟩
end RU
theorem sim_run (n : Nat) (p1 : Int32) (I : SI) (F : SF) (g : Nat → Int64) (J : SI) (G : SF) (hn : n < 512) (h : Rel n I F J G) : wpl_run p1 I F g J G (Rel (n + 1)) := by
  have h0 := h
  obtain ⟨P, hw, hc, hm, hb, hr, hrun⟩ := h
  by_cases c1 : ¬ p1 < 0 ∧ p1 < 2001
  · have c1' : 0 ≤ p1 ∧ p1 ≤ 2000 := b_w (n := 2000) rfl rfl (by decide) c1
    by_cases c2 : I 1 = 0
    · refine failI 2 (by decide) h0 (fun Post q => ⟨fun _ _ _ => False, fun k I1 F1 => k = 3 ∧ I1 = I ∧ F1 = F, ?_, fun k I1 F1 z => Or.inr ⟨z.1, by rw [z.2.1, z.2.2]; exact q⟩, fun _ _ _ z => z.elim⟩) (fun Post q => ?_)
      · unfold wp_CJ_run
        simp only [ev_below, ex3, bi_y c1]
        exact ⟨fun _ => ⟨_, _, ⟨fun z => absurd c2 z, fun _ => ⟨rfl, rfl, rfl⟩⟩, fun _ _ _ q => q, fun _ _ q => q⟩, fun z => absurd z (by decide)⟩
      · show wp_MM_run _ _ _ _
        unfold wp_MM_run
        simp only [ev_within, ex3, bi_y c1', hr, c2, ev_goes2 (show ¬ (1 : Int32) = 0 by decide) (show (0 : Int32) = 0 from rfl)]
        exact ⟨fun z => absurd trivial z, fun _ => q⟩
    · have e1 := bo_ne hb c2
      obtain ⟨A, hA, hB, hS, s1, s2, s3⟩ := hrun e1
      have h4 : ¬ J 4 = 0 := by rw [hr]; exact c2
      obtain ⟨N, hN, rfl⟩ := in_nI (n := 2001) rfl (by decide) c1
      obtain ⟨A', e, a1, a2, a3, a4, a5, a6, a7, a8⟩ := run_both hw (show N ≤ 2000 by omega) N (t := 0) hS s3 (by omega) (by omega) (by omega)
      refine mkI 0 (nI e) (fun I1 F1 => cU P A' I I1 F1) (fun J1 G1 => mU P A' (va_up J 0 0) e J1 G1) ?_ ?_ ?_
      · refine ⟨fun r I1 F1 => r = nI e ∧ cU P A' I I1 F1, fun _ _ _ => False, ?_, fun _ _ _ q => q.elim, fun r I1 F1 q => ?_⟩
        · unfold wp_CJ_run
          simp only [ev_below, ex3, bi_y c1]
          exact ⟨fun _ => ⟨_, _, ⟨fun _ => ⟨_, ⟨N + 1, a7 I F hA hc _ (fun I' F' u => ⟨rfl, u⟩)⟩, fun _ _ _ q => q⟩, fun z => absurd z c2⟩, fun _ _ _ q => q, fun _ _ q => q⟩, fun z => absurd z (by decide)⟩
        · obtain ⟨rfl, q2⟩ := q
          exact ⟨rfl, fun _ => updL_0 _ _, q2⟩
      · show wp_MM_run _ _ _ _
        unfold wp_MM_run
        simp only [ev_within, ex3, bi_y c1', ev_goes0 (show ¬ (1 : Int32) = 0 by decide) h4 (show ¬ (1 : Int32) = 0 by decide)]
        refine ⟨fun _ => ⟨N + 2, a8 (va_up J 0 0) G (mB_I (mB_of hB) rfl rfl rfl rfl) hm hB.2.2.2.2.1 hB.2.2.2.2.2.2.1 _ (fun J' G' u => ⟨u.2.2.1, fun _ => rfl, u⟩)⟩, fun z => absurd z (by decide)⟩
      · intro I1 F1 J1 G1 q1 q2 _
        obtain ⟨u1, u2, u3⟩ := q1
        obtain ⟨v1, v2, v3, v4, v5, v6, v7⟩ := q2
        have e11 : I1 1 = 1 := u3.trans e1
        refine ⟨P, hw, u2, v2, by rw [e11]; exact bo_1, ?_, fun _ => ⟨A', u1, mR_mk v1 v5 ?_ v7, a1, by omega, a4 s2, a2⟩⟩
        · rw [e11, v4]
          show J 4 = 1
          rw [hr, e1]
        · rw [v6]
          show J 7 + nI e = _
          rw [hB.2.2.2.2.2.1, nI_add, ← a5, Nat.add_zero]
  · have c1' : ¬ (0 ≤ p1 ∧ p1 ≤ 2000) := fun q => c1 (w_b (n := 2000) rfl rfl (by decide) q)
    refine failI 1 (by decide) h0 (fun Post q => ⟨fun _ _ _ => False, fun k I1 F1 => k = 2 ∧ I1 = I ∧ F1 = F, ?_, fun k I1 F1 z => Or.inl ⟨z.1, by rw [z.2.1, z.2.2]; exact q⟩, fun _ _ _ z => z.elim⟩) (fun Post q => ?_)
    · unfold wp_CJ_run
      simp only [ev_below, ex3, bi_n c1]
      exact ⟨fun z => absurd trivial z, fun _ => ⟨trivial, trivial, trivial⟩⟩
    · show wp_MM_run _ _ _ _
      unfold wp_MM_run
      simp only [ev_within, ex3, bi_n c1', ev_goes1 (show (0 : Int32) = 0 from rfl)]
      exact ⟨fun z => absurd trivial z, fun _ => q⟩
