/-! the class's judge -/
theorem in_c {n k : Nat} (h : vp_in (nI k) n) (hk : k < 2 ^ 31) : ¬ (nI k < 0 ∨ n ≤ k) := by
  unfold vp_in at h
  rw [cl hk] at h
  exact h
def cXx (x : aj_S) (F : SF) (p : Nat) : Prop := wt x ∧ x.1 ≤ 15 ∧ cE x (F 4 p) (F 5 p) (F 6 p) (F 7 p)
def cJ (J : aj_J) (F : SF) : Prop := ∀ p, p < 120 → (J p = none → F 4 p = -1) ∧ ∀ x, J p = some x → cXx x F p
/-- the places that wait, one above another -/
def cQ (k : Nat → Bool) (I : SI) (F : SF) : Prop := (∀ p, p < 120 → F 9 p = if k p = true then 1 else 0) ∧ I 0 = nI (aj_nw 120 k) ∧ ∀ i, i < aj_nw 120 k → ∃ p, p < 120 ∧ F 8 i = nI p ∧ k p = true ∧ ∀ j, j < aj_nw 120 k → F 8 j = nI p → j = i
/-- outside the judge nothing has changed -/
def kC (I : SI) (F : SF) (I' : SI) (F' : SF) : Prop := (∀ i, (1 ≤ i ∧ i < 5) ∨ 8 < i → I' i = I i) ∧ ∀ j, j < 4 ∨ 9 < j → F' j = F j
theorem kC_rf {I : SI} {F : SF} : kC I F I F := ⟨fun _ _ => rfl, fun _ _ => rfl⟩
theorem kC_tr {I I1 I2 : SI} {F F1 F2 : SF} (h : kC I F I1 F1) (g : kC I1 F1 I2 F2) : kC I F I2 F2 := ⟨fun i hi => (g.1 i hi).trans (h.1 i hi), fun j hj => (g.2 j hj).trans (h.2 j hj)⟩
theorem kC_S {I I1 : SI} {F : SF} (h : kS I I1) : kC I F I1 F := ⟨fun i hi => h i (by omega), fun _ _ => rfl⟩
theorem cT_kC {P : aj_P} {I I1 : SI} {F F1 : SF} (h : cT P I F) (g : kC I F I1 F1) : cT P I1 F1 := by
  intro k hk
  obtain ⟨a1, a2, a3, a4, a5, a6, a7, a8⟩ := h k hk
  refine ⟨(g.1 _ (by omega)).trans a1, (g.1 _ (by omega)).trans a2, (g.1 _ (by omega)).trans a3, (g.1 _ (by omega)).trans a4, (g.1 _ (by omega)).trans a5, (g.1 _ (by omega)).trans a6, (g.1 _ (by omega)).trans a7, fun p hp => ⟨?_, ?_⟩⟩
  · rw [g.2 _ (by omega)]; exact (a8 p hp).1
  · rw [g.2 _ (by omega)]; exact (a8 p hp).2
theorem cR_kC {A : am} {I I1 : SI} {F F1 : SF} (h : cR A I F) (g : kC I F I1 F1) : cR A I1 F1 := by
  unfold cR
  rw [g.1 9 (by omega), g.1 10 (by omega), g.1 11 (by omega), g.1 12 (by omega), g.1 2 (by omega), g.1 3 (by omega), g.1 4 (by omega), g.2 14 (by omega), g.2 15 (by omega), g.2 16 (by omega), g.2 17 (by omega), g.2 18 (by omega), g.2 19 (by omega), g.2 20 (by omega), g.2 21 (by omega), g.2 22 (by omega)]
  exact h
theorem nw_up {k : Nat → Bool} {p : Nat} {b : Bool} (hp : p < 120) : aj_nw 120 (va_up k p b) + (if k p = true then 1 else 0) = aj_nw 120 k + (if b = true then 1 else 0) := by
  have e : (fun q => (if va_up k p b q = true then 1 else 0 : Nat)) = va_up (fun q => (if k q = true then 1 else 0 : Nat)) p (if b = true then 1 else 0) := by
    funext j
    by_cases w : j = p
    · rw [w, va_up_self, va_up_self]
    · rw [va_up_ne _ _ w, va_up_ne _ _ w]
  unfold aj_nw
  rw [e]
  exact aj_sum_up (f := fun q => (if k q = true then 1 else 0 : Nat)) hp
theorem nw_le {k : Nat → Bool} : aj_nw 120 k ≤ 120 := by
  have := aj_sum_c (f := fun q => (if k q = true then 1 else 0 : Nat)) (c := 1) (n := 120) (fun j _ => by split <;> omega)
  unfold aj_nw
  omega
theorem nw_0 {k : Nat → Bool} (h : ∀ p, p < 120 → k p = false) : aj_nw 120 k = 0 := by
  have := aj_sum_c (f := fun q => (if k q = true then 1 else 0 : Nat)) (c := 0) (n := 120) (fun j hj => by rw [h j hj]; decide)
  unfold aj_nw
  omega
theorem nw_n {k : Nat → Bool} (h : aj_nw 120 k = 0) {p : Nat} (hp : p < 120) : k p = false := by
  have := aj_sum_0 (f := fun q => (if k q = true then 1 else 0 : Nat)) h hp
  cases e : k p with
  | false => rfl
  | true => rw [e] at this; exact absurd this (by decide)
theorem cQ_0 {k : Nat → Bool} {I I1 : SI} {F : SF} (h : cQ k I F) (e : I1 0 = I 0) : cQ k I1 F := ⟨h.1, e.trans h.2.1, h.2.2⟩
theorem c_await {k : Nat → Bool} {p : Nat} {I : SI} {F : SF} {Post : SI → SF → Prop} (hp : p < 120) (hq : cQ k I F) (h : ∀ I' F', (∀ i, i ≠ 0 → I' i = I i) → (∀ j, j ≠ 8 → j ≠ 9 → F' j = F j) → cQ (va_up k p true) I' F' → Post I' F') : wp_Ju_await (nI p) I F Post := by
  obtain ⟨q1, q2, q3⟩ := hq
  unfold wp_Ju_await
  rw [cl (show p < 2 ^ 31 by omega), q1 p hp, n_nar1]
  have hv := vp_in_nI hp (show 120 < 2 ^ 31 by decide)
  refine ⟨hv, fun z => ?_, fun z => ?_⟩
  · have hk : k p = true := by
      cases e : k p with
      | true => rfl
      | false => rw [e] at z; exact absurd rfl z
    refine h I F (fun _ _ => rfl) (fun _ _ _ => rfl) ?_
    rw [va_same k p hk]
    exact ⟨q1, q2, q3⟩
  · have hk : k p = false := by
      cases e : k p with
      | false => rfl
      | true => rw [e] at z; exact absurd z (by decide)
    have hn : aj_nw 120 (va_up k p true) = aj_nw 120 k + 1 := by
      have := nw_up (k := k) (b := true) hp
      rw [hk] at this
      simpa using this
    have hlt : aj_nw 120 k < 120 := by
      have := nw_le (k := va_up k p true)
      omega
    rw [q2]
    refine ⟨fun w => absurd w (nI_ge hlt (by decide)), fun _ => ⟨hv, vp_in_nI hlt (by decide), h _ _ ?_ ?_ ?_⟩⟩
    · intro i hi
      exact va_up_ne _ _ hi
    · intro j h8 h9
      rw [va_up_ne _ _ h8, va_up_ne _ _ h9]
    · rw [cl (show aj_nw 120 k < 2 ^ 31 by omega)]
      refine ⟨fun j hj => ?_, ?_, fun i hi => ?_⟩
      · show upd (F 9) p 1 j = if va_up k p true j = true then 1 else 0
        by_cases w : j = p
        · subst w
          rw [va_up_self]
          simp [upd]
        · rw [va_up_ne _ _ w]
          show (if j = p then 1 else F 9 j) = _
          rw [if_neg w]
          exact q1 j hj
      · show nI (aj_nw 120 k) + 1 = nI (aj_nw 120 (va_up k p true))
        rw [hn, nI_1]
      · rw [hn] at hi ⊢
        have eF : ∀ j, (va_up (va_up F 9 (upd (F 9) p 1)) 8 (upd (F 8) (aj_nw 120 k) (nI p))) 8 j = if j = aj_nw 120 k then nI p else F 8 j := fun j => rfl
        by_cases w : i = aj_nw 120 k
        · refine ⟨p, hp, by rw [eF, if_pos w], va_up_self _ _ _, fun j hj hj2 => ?_⟩
          by_cases w2 : j = aj_nw 120 k
          · omega
          · exfalso
            rw [eF, if_neg w2] at hj2
            obtain ⟨p2, g1, g2, g3, -⟩ := q3 j (by omega)
            have := (nI_eq (by omega) (by omega)).mp (g2.symm.trans hj2)
            rw [this, hk] at g3
            cases g3
        · obtain ⟨p2, g1, g2, g3, g4⟩ := q3 i (by omega)
          have hne : p2 ≠ p := fun e => by rw [e, hk] at g3; cases g3
          refine ⟨p2, g1, by rw [eF, if_neg w]; exact g2, by rw [va_up_ne _ _ hne]; exact g3, fun j hj hj2 => ?_⟩
          by_cases w2 : j = aj_nw 120 k
          · rw [eF, if_pos w2] at hj2
            exact absurd ((nI_eq (by omega) (by omega)).mp hj2).symm hne
          · rw [eF, if_neg w2] at hj2
            exact g4 j (by omega) hj2
theorem cQ_pop {k : Nat → Bool} {w : Nat} {I : SI} {F : SF} (hq : cQ k I F) (hw : aj_nw 120 k = w + 1) : ∃ p, p < 120 ∧ F 8 w = nI p ∧ k p = true ∧ cQ (va_up k p false) (va_up I 0 (nI w)) (va_up F 9 (upd (F 9) p 0)) := by
  obtain ⟨q1, q2, q3⟩ := hq
  obtain ⟨p, h1, h2, h3, h4⟩ := q3 w (by omega)
  have hn : aj_nw 120 (va_up k p false) = w := by
    have := nw_up (k := k) (b := false) h1
    rw [h3, hw] at this
    simpa using this
  refine ⟨p, h1, h2, h3, fun j hj => ?_, ?_, fun i hi => ?_⟩
  · show upd (F 9) p 0 j = if va_up k p false j = true then 1 else 0
    by_cases e : j = p
    · subst e
      rw [va_up_self]
      simp [upd]
    · rw [va_up_ne _ _ e]
      show (if j = p then 0 else F 9 j) = _
      rw [if_neg e]
      exact q1 j hj
  · show nI w = nI (aj_nw 120 (va_up k p false))
    rw [hn]
  · rw [hn] at hi ⊢
    obtain ⟨p2, g1, g2, g3, g4⟩ := q3 i (by omega)
    have hne : p2 ≠ p := fun e => by
      subst e
      have := g4 w (by omega) h2
      omega
    exact ⟨p2, g1, g2, by rw [va_up_ne _ _ hne]; exact g3, fun j hj hj2 => g4 j (by omega) hj2⟩
theorem nI_m1 {n : Nat} (h : n < 2 ^ 31) : ¬ nI n = -1 := fun e => nI_pos h (by rw [e]; decide)
theorem cJ_up {J : aj_J} {F F' : SF} {p : Nat} {w : aj_S} (hJ : cJ J F) (h : ∀ j q, 4 ≤ j → j ≤ 7 → q ≠ p → F' j q = F j q) (hx : cXx w F' p) : cJ (va_up J p (some w)) F' := by
  intro q hq
  by_cases e : q = p
  · subst e
    rw [va_up_self]
    exact ⟨fun z => (by cases z), fun x z => by cases z; exact hx⟩
  · rw [va_up_ne _ _ e]
    refine ⟨fun z => (h 4 q (by omega) (by omega) e).trans ((hJ q hq).1 z), fun x z => ?_⟩
    unfold cXx
    rw [h 4 q (by omega) (by omega) e, h 5 q (by omega) (by omega) e, h 6 q (by omega) (by omega) e, h 7 q (by omega) (by omega) e]
    exact (hJ q hq).2 x z
theorem t_same {a b : Nat} (h : a = 1 ∨ a = 2) (g : b = 1 ∨ b = 2) (e : decide (a = 2) = decide (b = 2)) : a = b := by
  rcases h with rfl | rfl <;> rcases g with rfl | rfl
  · rfl
  · exact absurd e (by decide)
  · exact absurd e (by decide)
  · rfl
section JU
variable {P : aj_P} {m : Nat} {J : aj_J} {k : Nat → Bool} {y : aj_S} {t : Int32} {I : SI} {F : SF} {Post : Int32 → SI → SF → Prop}
theorem c_arrive (hw : wfP P) (hc : cT P I F) (hm : m < 8) (hJ : cJ J F) (hq : cQ k I F) (hn : cN y I) (hy : wt y) (h15 : y.1 ≤ 15) (h0 : aj_arr (P.1 m 6) t y (J, k) = none → Post 0 I F) (h1 : ∀ J' k' I' F', aj_arr (P.1 m 6) t y (J, k) = some (J', k') → kC I F I' F' → (∀ i, i ≠ 0 → I' i = I i) → cJ J' F' → cQ k' I' F' → Post 1 I' F') : wp_Ju_arrive m t I F Post := by
  have hs := s120 hw hm
  unfold wp_Ju_arrive
  simp only [ev_has hc hm, ex3]
  refine ⟨fun z => ?_, fun z => ?_⟩
  · have hv : vp_in t (P.1 m 6) := (vin_b (by omega)).mpr (bi_1 z)
    obtain ⟨p, hp, rfl⟩ := vp_in_of hv (by omega)
    have hp2 : p < 120 := by omega
    have hv2 := vp_in_nI hp2 (show 120 < 2 ^ 31 by decide)
    have hv3 : ¬ (nI p < 0 ∨ P.1 m 6 ≤ p) := in_c hv (by omega)
    unfold aj_arr at h0 h1
    simp only [if_neg hv3, cl (show p < 2 ^ 31 by omega)] at h0 h1
    rw [cl (show p < 2 ^ 31 by omega)]
    have up : ∀ (w : aj_S) (F2 : SF), (∀ j, j < 4 ∨ 7 < j → F2 j = F j) → (∀ j q, 4 ≤ j → j ≤ 7 → q ≠ p → F2 j q = F j q) → cXx w F2 p → (∀ I' F', kC I F I' F' → (∀ i, i ≠ 0 → I' i = I i) → cJ (va_up J p (some w)) F' → cQ (va_up k p true) I' F' → Post 1 I' F') → ∃ P24 : SI → SF → Prop, wp_Ju_await (nI p) I F2 P24 ∧ ∀ I24 F24, P24 I24 F24 → Post 1 I24 F24 := by
      intro w F2 k1 k2 hx g
      refine ⟨_, c_await hp2 (k := k) ?_ ?_, fun _ _ q => q⟩
      · unfold cQ
        rw [k1 9 (by omega), k1 8 (by omega)]
        exact hq
      · intro I' F' i1 f1 q1
        refine g I' F' ⟨fun i hi => i1 i (by omega), fun j hj => ?_⟩ i1 (cJ_up hJ (fun j q a b c => ?_) ?_) q1
        · rw [f1 j (by omega) (by omega), k1 j (by omega)]
        · rw [f1 j (by omega) (by omega)]
          exact k2 j q a b c
        · unfold cXx
          rw [f1 4 (by decide) (by decide), f1 5 (by decide) (by decide), f1 6 (by decide) (by decide), f1 7 (by decide) (by decide)]
          exact hx
    refine ⟨hv2, fun z1 => ?_, fun z1 => ?_⟩
    · cases e : J p with
      | none => exact absurd ((hJ p hp2).1 e) z1
      | some z =>
        simp only [e] at h0 h1
        obtain ⟨x1, x2, c4, c5, c6, c7⟩ := (hJ p hp2).2 z e
        obtain ⟨n5, n6, n7, n8⟩ := hn
        refine ⟨hv2, fun z2 => ?_, fun z2 => ⟨hv2, fun z3 => ?_, fun z3 => ?_⟩⟩
        · exact h0 (if_neg (fun w => z2 (by rw [c4, n5, (aj_same_iff.mp w).1])))
        · have hz : z.1 = y.1 := (nI_eq (by omega) (by omega)).mp (by rw [← c4, ← n5]; exact z2)
          have c5' := c5
          rw [hz] at c5'
          have hsm : aj_same z y = true := aj_same_iff.mpr ⟨hz, fun i hi => t_same (x1.1 i (by omega)) (hy.1 i hi) ((bs_eq c5' n6 (by omega)).mp z3 i hi)⟩
          simp only [if_pos hsm] at h0 h1
          have a6 := bs_and c6 n7
          have a7 := bs_and c7 n8
          have cy : aj_chg z y = false ↔ (F 6 p &&& I 7 = F 6 p) ∧ (F 7 p &&& I 8 = F 7 p) := by
            rw [bs_eq a6 c6 (by decide), bs_eq a7 c7 (by decide), aj_chg_no]
            refine ⟨fun g => ⟨fun i hi => ?_, fun i hi => ?_⟩, fun g i hi => ?_⟩
            · show (decide (z.2.2 i = 1) && decide (y.2.2 i = 1)) = decide (z.2.2 i = 1)
              rcases g i hi with w | w
              · rw [w]; rfl
              · rw [w]; cases decide (y.2.2 i = 1) <;> rfl
            · show (decide (z.2.2 i = 2) && decide (y.2.2 i = 2)) = decide (z.2.2 i = 2)
              rcases g i hi with w | w
              · rw [w]; rfl
              · rw [w]; cases decide (y.2.2 i = 2) <;> rfl
            · have g1 : (decide (z.2.2 i = 1) && decide (y.2.2 i = 1)) = decide (z.2.2 i = 1) := g.1 i hi
              have g2 : (decide (z.2.2 i = 2) && decide (y.2.2 i = 2)) = decide (z.2.2 i = 2) := g.2 i hi
              have hz2 := x1.2 i hi
              rcases (show z.2.2 i = 0 ∨ z.2.2 i = 1 ∨ z.2.2 i = 2 by omega) with w | w | w
              · exact Or.inl w
              · rw [w] at g1
                have g3 : decide (y.2.2 i = 1) = true := g1
                exact Or.inr (w.trans (of_decide_eq_true g3).symm)
              · rw [w] at g2
                have g3 : decide (y.2.2 i = 2) = true := g2
                exact Or.inr (w.trans (of_decide_eq_true g3).symm)
          have ch : ¬ ((F 6 p &&& I 7 = F 6 p) ∧ (F 7 p &&& I 8 = F 7 p)) → wp_Ju_arrive_165 Post (nI p) (F 6 p &&& I 7) (F 7 p &&& I 8) I F := by
            intro w
            have hcg : aj_chg z y = true := by
              cases q : aj_chg z y with
              | true => rfl
              | false => exact absurd (cy.mp q) w
            simp only [if_pos hcg] at h1
            unfold wp_Ju_arrive_165
            rw [cl (show p < 2 ^ 31 by omega)]
            refine ⟨hv2, hv2, up (aj_meet z y) _ ?_ ?_ ?_ (fun I' F' a b c d => h1 _ _ I' F' rfl a b c d)⟩
            · intro j hj
              rw [va_up_ne _ _ (by omega), va_up_ne _ _ (by omega)]
            · intro j q a b c
              by_cases w7 : j = 7
              · subst w7
                rw [va_up_self]
                exact if_neg c
              · rw [va_up_ne _ _ w7]
                by_cases w6 : j = 6
                · subst w6
                  rw [va_up_self]
                  exact if_neg c
                · rw [va_up_ne _ _ w6]
            · have e6 : (va_up (va_up F 6 (upd (F 6) p (F 6 p &&& I 7))) 7 (upd (F 7) p (F 7 p &&& I 8))) 6 p = F 6 p &&& I 7 := if_pos rfl
              have e7 : (va_up (va_up F 6 (upd (F 6) p (F 6 p &&& I 7))) 7 (upd (F 7) p (F 7 p &&& I 8))) 7 p = F 7 p &&& I 8 := if_pos rfl
              refine ⟨⟨x1.1, fun i hi => ?_⟩, x2, c4, c5, ?_, ?_⟩
              · show (if z.2.2 i = y.2.2 i then z.2.2 i else 0) ≤ 2
                split
                · exact x1.2 i hi
                · decide
              · rw [e6]
                refine bs_cg a6 (fun i hi => ?_)
                show (decide (z.2.2 i = 1) && decide (y.2.2 i = 1)) = decide ((if z.2.2 i = y.2.2 i then z.2.2 i else 0) = 1)
                by_cases w2 : z.2.2 i = y.2.2 i
                · rw [if_pos w2, w2, Bool.and_self]
                · rw [if_neg w2]
                  by_cases w3 : z.2.2 i = 1
                  · rw [decide_eq_false (show ¬ y.2.2 i = 1 by omega), Bool.and_false]; rfl
                  · rw [decide_eq_false w3, Bool.false_and]; rfl
              · rw [e7]
                refine bs_cg a7 (fun i hi => ?_)
                show (decide (z.2.2 i = 2) && decide (y.2.2 i = 2)) = decide ((if z.2.2 i = y.2.2 i then z.2.2 i else 0) = 2)
                by_cases w2 : z.2.2 i = y.2.2 i
                · rw [if_pos w2, w2, Bool.and_self]
                · rw [if_neg w2]
                  by_cases w3 : z.2.2 i = 2
                  · rw [decide_eq_false (show ¬ y.2.2 i = 2 by omega), Bool.and_false]; rfl
                  · rw [decide_eq_false w3, Bool.false_and]; rfl
          refine ⟨hv2, fun x10 e10 => ⟨hv2, fun x12 e12 => ?_⟩⟩
          subst e10 e12
          refine ⟨hv2, fun z4 => ch (fun w => z4 w.1), fun z4 => ⟨hv2, fun z5 => ?_, fun z5 => ch (fun w => z5 w.2)⟩⟩
          have hcg : ¬ aj_chg z y = true := by rw [cy.mpr ⟨z4, z5⟩]; decide
          simp only [if_neg hcg] at h1
          exact h1 J k I F rfl kC_rf (fun _ _ => rfl) hJ hq
        · refine h0 (if_neg (fun w => z3 ?_))
          have hz : z.1 = y.1 := (aj_same_iff.mp w).1
          rw [hz] at c5
          refine (bs_eq c5 n6 (by omega)).mpr (fun i hi => ?_)
          show decide (z.2.1 i = 2) = decide (y.2.1 i = 2)
          rw [(aj_same_iff.mp w).2 i hi]
    · have e : J p = none := by
        cases e : J p with
        | none => rfl
        | some z =>
          obtain ⟨-, x2, c4, -⟩ := (hJ p hp2).2 z e
          rw [c4] at z1
          exact absurd z1 (nI_m1 (by omega))
      simp only [e] at h0 h1
      refine ⟨hv2, hv2, hv2, hv2, up y _ ?_ ?_ ?_ (fun I' F' a b c d => h1 _ _ I' F' rfl a b c d)⟩
      · intro j hj
        rw [va_up_ne _ _ (by omega), va_up_ne _ _ (by omega), va_up_ne _ _ (by omega), va_up_ne _ _ (by omega)]
      · intro j q a b c
        rcases (show j = 4 ∨ j = 5 ∨ j = 6 ∨ j = 7 by omega) with rfl | rfl | rfl | rfl
        · exact if_neg c
        · exact if_neg c
        · exact if_neg c
        · exact if_neg c
      · have e4 : ∀ (f : Nat → Int32) (v : Int32), upd f p v p = v := fun f v => if_pos rfl
        refine ⟨hy, h15, ?_⟩
        show cE y (upd (F 4) p (I 5) p) (upd (F 5) p (I 6) p) (upd (F 6) p (I 7) p) (upd (F 7) p (I 8) p)
        rw [e4, e4, e4, e4]
        exact hn
  · refine h0 ?_
    unfold aj_arr
    rw [if_pos (Classical.not_not.mp (fun w => bi_0.mp z ((vin_b (by omega)).mp w)))]
theorem c_oat {p : Nat} (hw : wfP P) (hc : cT P I F) (hm : m < 8) (hp : p < P.1 m 6) : wp_Me_orderAt m (nI p) I F Post ↔ Post (nI (P.2.1 m p)) I F := by
  have hs := s120 hw hm
  unfold wp_Me_orderAt
  simp only [ev_has hc hm, ex3, hs_y hw hm hp, cl (show p < 2 ^ 31 by omega), c_ord hc hm (show p < 120 by omega)]
  exact ⟨fun q => (q.2 (by decide)).2, fun q => y1 ⟨vp_in_nI (by omega) (by decide), q⟩⟩
theorem c_nat {p : Nat} (hw : wfP P) (hc : cT P I F) (hm : m < 8) (hp : p < P.1 m 6) : wp_Me_numberAt m (nI p) I F Post ↔ Post (P.2.2 m p) I F := by
  have hs := s120 hw hm
  unfold wp_Me_numberAt
  simp only [ev_has hc hm, ex3, hs_y hw hm hp, cl (show p < 2 ^ 31 by omega), c_num hc hm (show p < 120 by omega)]
  exact ⟨fun q => (q.2 (by decide)).2, fun q => y1 ⟨vp_in_nI (by omega) (by decide), q⟩⟩
theorem arrs_1 {n : Nat} {t : Int32} {y : aj_S} {Jk : aj_J × (Nat → Bool)} : aj_arrs n y [t] Jk = aj_arr n t y Jk := by
  show (aj_arr n t y Jk).bind (aj_arrs n y []) = _
  cases aj_arr n t y Jk <;> rfl
theorem c_tail {o p : Nat} (hw : wfP P) (hc : cT P I F) (hm : m < 8) (ho : o ≤ 25) (hJ : cJ J F) (hq : cQ k I F) (hn : cN y I) (hy : wt y) (h15 : y.1 ≤ 15) (h24 : ¬ o = 24) (h0 : aj_arrs (P.1 m 6) y (if o = 14 ∨ o = 24 then [] else [nI (p + 1)]) (J, k) = none → Post 0 I F) (h1 : ∀ J' k' I' F', aj_arrs (P.1 m 6) y (if o = 14 ∨ o = 24 then [] else [nI (p + 1)]) (J, k) = some (J', k') → kC I F I' F' → cJ J' F' → cQ k' I' F' → Post 1 I' F') : wp_Ju_follow_150 Post m (nI p) (nI o) I F := by
  unfold wp_Ju_follow_150 wp_Ju_follow_168
  have c : nI o = 14 ↔ o = 14 := nI_eq (by omega) (by decide)
  rw [nI_1]
  refine ⟨fun z => ?_, fun z => ?_⟩
  · rw [if_pos (Or.inl (c.mp z))] at h1
    exact h1 J k I F rfl kC_rf hJ hq
  · rw [if_neg (show ¬ (o = 14 ∨ o = 24) from fun w => w.elim (fun a => z (c.mpr a)) h24), arrs_1] at h0 h1
    refine ⟨_, c_arrive hw hc hm hJ hq hn hy h15 ?_ ?_, fun _ _ _ q => q⟩
    · intro z
      exact y0 (h0 z)
    · intro J' k' I' F' e1 k1 _ j1 q1
      exact y1 (h1 J' k' I' F' e1 k1 j1 q1)
theorem aj_ok_n {o p : Nat} {v : Int32} {x : aj_S} (h : ¬ aj_ok P m o v) : ((aj_ef P m o v x).bind fun y => aj_arrs (P.1 m 6) y (aj_next o p v) (J, k)) = none := by
  by_cases h1 : (1 ≤ o ∧ o ≤ 4) ∧ ¬ vp_in v (P.1 m 4)
  · have hv : v < 0 ∨ P.1 m 4 ≤ v.toNatClampNeg := Classical.not_not.mp h1.2
    have e : aj_do P m o v x = none := by
      unfold aj_do
      by_cases q : o = 1 ∨ o = 3
      · rw [if_pos q, if_pos hv]
      · rw [if_neg q, if_pos (by omega), if_pos hv]
    unfold aj_ef
    rw [e]; rfl
  · by_cases h2 : aj_jmp o = true ∧ ¬ vp_in v (P.1 m 6)
    · have hv : v < 0 ∨ P.1 m 6 ≤ v.toNatClampNeg := Classical.not_not.mp h2.2
      cases e : aj_ef P m o v x with
      | none => rfl
      | some y =>
        show aj_arrs (P.1 m 6) y (aj_next o p v) (J, k) = none
        unfold aj_next
        rw [if_pos h2.1]
        show (aj_arr (P.1 m 6) v y (J, k)).bind _ = none
        unfold aj_arr
        rw [if_pos hv]; rfl
    · by_cases h3 : o = 23 ∧ ¬ (vp_in v 8 ∧ P.1 v.toNatClampNeg 0 = 1)
      · obtain ⟨rfl, h3⟩ := h3
        have e : aj_do P m 23 v x = none := by
          have e : aj_do P m 23 v x = if v < 0 ∨ 8 ≤ v.toNatClampNeg then none else if P.1 v.toNatClampNeg 0 = 1 then (aj_pops (aj_args (P.1 v.toNatClampNeg 2) (P.1 v.toNatClampNeg 1)) x).bind (aj_put (P.1 v.toNatClampNeg 3)) else none := rfl
          rw [e]
          by_cases q : v < 0 ∨ 8 ≤ v.toNatClampNeg
          · rw [if_pos q]
          · rw [if_neg q, if_neg (fun w => h3 ⟨q, w⟩)]
        unfold aj_ef
        rw [e]; rfl
      · refine absurd ⟨fun q => ?_, fun q => ?_, fun q => ?_⟩ h
        · exact Classical.not_not.mp (fun w => h1 ⟨q, w⟩)
        · exact Classical.not_not.mp (fun w => h2 ⟨q, w⟩)
        · exact Classical.not_not.mp (fun w => h3 ⟨q, w⟩)
theorem ch_do {o : Nat} {v : Int32} {x : aj_S} (h : ¬ o = 24) : aj_ch P m o v x = aj_do P m o v x := if_neg h
theorem do_24 {v : Int32} {x : aj_S} : aj_do P m 24 v x = (aj_ch P m 24 v x).bind aj_nil := rfl
theorem c_follow {p : Nat} {x : aj_S} (hw : wfP P) (hc : cT P I F) (hm : m < 8) (hp : p < P.1 m 6) (hx : J p = some x) (hJ : cJ J F) (hq : cQ k I F) (h0 : ((aj_ef P m (P.2.1 m p) (P.2.2 m p) x).bind fun y => aj_arrs (P.1 m 6) y (aj_next (P.2.1 m p) p (P.2.2 m p)) (J, k)) = none → ∀ I' F', kC I F I' F' → Post 0 I' F') (h1 : ∀ J' k' I' F', ((aj_ef P m (P.2.1 m p) (P.2.2 m p) x).bind fun y => aj_arrs (P.1 m 6) y (aj_next (P.2.1 m p) p (P.2.2 m p)) (J, k)) = some (J', k') → kC I F I' F' → cJ J' F' → cQ k' I' F' → Post 1 I' F') : wp_Ju_follow m (nI p) I F Post := by
  have hs := s120 hw hm
  have hp2 : p < 120 := by omega
  have ho : P.2.1 m p ≤ 25 := (hw m hm).2.2.2.2.2.2.2.2 p hp2
  have hl := (hw m hm).2.2.2.2.2.2.1
  have hv2 := vp_in_nI hp2 (show 120 < 2 ^ 31 by decide)
  obtain ⟨x1, x2, x3⟩ := (hJ p hp2).2 x hx
  unfold wp_Ju_follow
  simp only [c_oat hw hc hm hp, c_nat hw hc hm hp, ex3]
  rw [cl (show p < 2 ^ 31 by omega)]
  generalize ho' : P.2.1 m p = o at *
  generalize hv' : P.2.2 m p = v at *
  refine ⟨hv2, hv2, hv2, hv2, ?_⟩
  have hk0 : kS I (va_up (va_up (va_up (va_up I 5 (F 4 p)) 6 (F 5 p)) 7 (F 6 p)) 8 (F 7 p)) := fun i hi => by
    rw [va_up_ne _ _ (by omega), va_up_ne _ _ (by omega), va_up_ne _ _ (by omega), va_up_ne _ _ (by omega)]
  have hn0 : cN x (va_up (va_up (va_up (va_up I 5 (F 4 p)) 6 (F 5 p)) 7 (F 6 p)) 8 (F 7 p)) := x3
  generalize va_up (va_up (va_up (va_up I 5 (F 4 p)) 6 (F 5 p)) 7 (F 6 p)) 8 (F 7 p) = I0 at *
  have hc0 : cT P I0 F := cT_kC hc (kC_S hk0)
  refine ⟨_, ct_there hw hc0 hm ho ?_, fun _ _ _ q => q⟩
  by_cases hok : aj_ok P m o v
  · rw [bi_y hok]
    refine y1 ⟨_, c_change hw hc0 hm ho hok hn0 x2 x1 ?_ ?_, fun _ _ _ q => q⟩
    · intro z I1 k1
      refine y0 (h0 ?_ I1 F (kC_S (kS_tr hk0 k1)))
      have e : aj_do P m o v x = none := by
        by_cases q : o = 24
        · subst q; rw [do_24, z]; rfl
        · rw [← ch_do q, z]
      unfold aj_ef
      rw [e]; rfl
    · intro I1 y k1 z n1
      have hc1 : cT P I1 F := cT_kC hc0 (kC_S k1)
      have kc1 : kC I F I1 F := kC_S (kS_tr hk0 k1)
      have hq1 : cQ k I1 F := cQ_0 hq ((k1 0 (by omega)).trans (hk0 0 (by omega)))
      have e5 : I1 5 = nI y.1 := n1.1
      have hy1 : y.1 ≤ 16 := by
        by_cases q : o = 24
        · subst q
          rw [ach_24] at z
          by_cases w : P.1 m 3 = 0
          · rw [if_pos w] at z; cases z; omega
          · rw [if_neg w] at z
            rw [(aj_pop_s z).2.2]
            show x.1 - 1 ≤ 16
            omega
        · rw [ch_do q] at z
          have := (wt_do hw x1 z).2
          omega
      refine y1 ?_
      rw [e5, (hc1 m hm).2.2.2.2.2.1]
      have hlim : nI y.1 ≤ nI (P.1 m 5) ↔ y.1 ≤ P.1 m 5 := nI_leI (by omega) (by omega)
      have c24 : nI o = 24 ↔ o = 24 := nI_eq (by omega) (by decide)
      refine ⟨fun z2 => ?_, fun z2 => ?_⟩
      · have hyl := hlim.mp z2
        by_cases h24 : o = 24
        · refine ⟨fun w => absurd (c24.mpr h24) w, fun _ => ⟨fun z3 => ?_, fun z3 => ?_⟩⟩
          · refine h0 ?_ I1 F kc1
            subst h24
            have e : aj_do P m 24 v x = none := by
              rw [do_24, z]
              show aj_nil y = none
              unfold aj_nil
              rw [if_neg (fun w => z3 (by rw [w]; rfl))]
            unfold aj_ef
            rw [e]; rfl
          · refine h1 J k I1 F ?_ kc1 hJ hq1
            subst h24
            have hy0 : y.1 = 0 := (nI_nz (by omega)).mp z3
            have e : aj_ef P m 24 v x = some y := by
              unfold aj_ef
              rw [do_24, z]
              show (aj_nil y).bind _ = _
              unfold aj_nil
              rw [if_pos hy0]
              show aj_lim _ y = _
              unfold aj_lim
              rw [if_pos hyl]
            rw [e]; rfl
        · refine ⟨fun _ => ?_, fun w => absurd (c24.mp w) h24⟩
          rw [ch_do h24] at z
          have ef : aj_ef P m o v x = some y := by
            unfold aj_ef
            rw [z]
            show aj_lim _ y = _
            unfold aj_lim
            rw [if_pos hyl]
          obtain ⟨wy, y15⟩ := wt_ef hw hm x1 ef
          simp only [ef, Option.bind_some] at h0 h1
          simp only [ev_np ho, ex3]
          refine ⟨fun z3 => ?_, fun z3 => ?_⟩
          · have hj : ¬ aj_jmp o = true := bi_0.mp z3
            unfold aj_next at h0 h1
            simp only [if_neg hj, List.nil_append] at h0 h1
            exact c_tail hw hc1 hm ho hJ hq1 n1 wy y15 h24 (fun e => h0 e I1 F kc1) (fun J' k' I' F' e a b c => h1 J' k' I' F' e (kC_tr kc1 a) b c)
          · have hj : aj_jmp o = true := bi_1 z3
            unfold aj_next at h0 h1
            simp only [if_pos hj, List.cons_append, List.nil_append, aj_arrs] at h0 h1
            refine ⟨_, c_arrive hw hc1 hm hJ hq1 n1 wy y15 ?_ ?_, fun _ _ _ q => q⟩
            · intro e
              exact z0 (h0 (by rw [e]; rfl) I1 F kc1)
            · intro J2 k2 I2 F2 e a b c d
              rw [e] at h0 h1
              have n2 : cN y I2 := by
                unfold cN
                rw [b 5 (by decide), b 6 (by decide), b 7 (by decide), b 8 (by decide)]
                exact n1
              refine z1 (c_tail hw (cT_kC hc1 a) hm ho c d n2 wy y15 h24 (fun e => h0 e I2 F2 (kC_tr kc1 a)) (fun J' k' I' F' e a2 b2 c2 => h1 J' k' I' F' e (kC_tr kc1 (kC_tr a a2)) b2 c2))
      · refine h0 ?_ I1 F kc1
        have hyl : ¬ y.1 ≤ P.1 m 5 := fun w => z2 (hlim.mpr w)
        have e : aj_ef P m o v x = none := by
          unfold aj_ef
          by_cases q : o = 24
          · subst q
            rw [do_24, z]
            show (aj_nil y).bind _ = _
            unfold aj_nil
            rw [if_neg (by omega)]; rfl
          · rw [← ch_do q, z]
            show aj_lim _ y = _
            unfold aj_lim
            rw [if_neg hyl]
        rw [e]; rfl
  · rw [bi_n hok]
    exact y0 (h0 (aj_ok_n hok) I0 F (kC_S hk0))
end JU
/-- the judge's answer -/
def jA (P : aj_P) (m : Nat) (r : Int32) (F : SF) : Prop := (r = 1 ∧ ∃ K, aj_least P m K ∧ cJ K F) ∨ (r = 0 ∧ ∀ S, ¬ aj_sol P m S)
theorem c_looks {P : aj_P} {m : Nat} {I0 : SI} {F0 : SF} {Post : Int32 → SI → SF → Prop} (hw : wfP P) (hc : cT P I0 F0) (hm : m < 8) (h : ∀ r I' F', kC I0 F0 I' F' → jA P m r F' → Post r I' F') : ∀ (d : Nat) {t : Nat} {J : aj_J} {k : Nat → Bool} {I : SI} {F : SF}, kC I0 F0 I F → cJ J F → cQ k I F → aj_I P m J k → (∀ S, aj_sol P m S → aj_Le J S) → aj_mu (P.1 m 6) J k ≤ d → t + d ≤ 1320 → wp_Ju_approves_18 Post (d + 1) m (nI t) I F := by
  have hs := s120 hw hm
  have hl := (hw m hm).2.2.2.2.2.1
  intro d
  induction d with
  | zero =>
    intro t J k I F hk hJ hq hI hS hmu ht
    have hf : ∀ p, p < 120 → k p = false := by
      intro p hp
      cases e : k p with
      | false => rfl
      | true =>
        obtain ⟨x, hx⟩ := hI.2.2.1 p e
        rw [← e]
        exact aj_mu_0 (J := J) (k := k) (by omega) (hI.1 p x hx)
    have hdone : wp_Ju_approves_80 Post I F := by
      have e0 : I 0 = 0 := by rw [hq.2.1, nw_0 hf]; rfl
      exact ⟨fun z => absurd e0 z, fun _ => h 1 I F hk (Or.inl ⟨rfl, J, aj_done hI (fun p hp => hf p (by omega)) hS, hJ⟩)⟩
    unfold wp_Ju_approves_18
    refine ⟨fun _ => hdone, fun _ => ⟨fun _ => hdone, fun z => absurd (show I 0 ≤ 0 by rw [hq.2.1, nw_0 hf]; decide) z⟩⟩
  | succ d ih =>
    intro t J k I F hk hJ hq hI hS hmu ht
    have hdone : aj_nw 120 k = 0 → wp_Ju_approves_80 Post I F := by
      intro e
      have e0 : I 0 = 0 := by rw [hq.2.1, e]; rfl
      exact ⟨fun z => absurd e0 z, fun _ => h 1 I F hk (Or.inl ⟨rfl, J, aj_done hI (fun p hp => nw_n e (by omega)) hS, hJ⟩)⟩
    have h120 := nw_le (k := k)
    unfold wp_Ju_approves_18
    have ht2 : ¬ 1320 ≤ nI t := nI_ge (show t < 1320 by omega) (by decide)
    rw [hq.2.1]
    refine ⟨fun z => absurd z ht2, fun _ => ⟨fun z => hdone ?_, fun z => ?_⟩⟩
    · rcases Nat.eq_zero_or_pos (aj_nw 120 k) with e | e
      · exact e
      · exact absurd z (nI_nle e (by omega))
    · obtain ⟨w, hw1⟩ : ∃ w, aj_nw 120 k = w + 1 := by
        rcases Nat.eq_zero_or_pos (aj_nw 120 k) with e | e
        · rw [e] at z; exact absurd (by decide) z
        · exact ⟨aj_nw 120 k - 1, by omega⟩
      obtain ⟨p, hp, h8, hkp, hq2⟩ := cQ_pop hq hw1
      rw [hw1, nI_pred, cl (show w < 2 ^ 31 by omega), h8]
      refine ⟨vp_in_nI (show w < 120 by omega) (by decide), fun x8 e8 => ?_⟩
      subst e8
      rw [cl (show p < 2 ^ 31 by omega), n_nar0]
      obtain ⟨x, hx⟩ := hI.2.2.1 p hkp
      have hps := hI.1 p x hx
      have el : aj_look P m p (J, k) = ((aj_ef P m (P.2.1 m p) (P.2.2 m p) x).bind fun y => aj_arrs (P.1 m 6) y (aj_next (P.2.1 m p) p (P.2.2 m p)) (J, va_up k p false)) := by
        unfold aj_look
        simp only [hx]
      have kc2 : kC I F (va_up I 0 (nI w)) (va_up F 9 (upd (F 9) p 0)) := ⟨fun i hi => va_up_ne _ _ (by omega), fun j hj => va_up_ne _ _ (by omega)⟩
      refine ⟨vp_in_nI hp (by decide), _, c_follow hw (cT_kC hc (kC_tr hk kc2)) hm hps hx (show cJ J (va_up F 9 (upd (F 9) p 0)) from hJ) hq2 ?_ ?_, fun _ _ _ q => q⟩
      · intro e I' F' k1
        refine z0 (h 0 I' F' (kC_tr hk (kC_tr kc2 k1)) (Or.inr ⟨rfl, fun S hSo => ?_⟩))
        obtain ⟨J', k', e2, -⟩ := aj_look_le (k := k) hl hSo (hS S hSo) hx
        rw [el, e] at e2
        cases e2
      · intro J' k' I' F' e k1 j1 q1
        refine z1 (fun x12 e12 => ?_)
        subst e12
        rw [nI_1]
        rw [← el] at e
        obtain ⟨i1, i2⟩ := aj_look_I hl hI e
        have mu1 := aj_look_mu hps hkp e
        refine ih (kC_tr hk (kC_tr kc2 k1)) j1 q1 i1 (fun S hSo => ?_) (by omega) (by omega)
        obtain ⟨J2, k2, e2, e3⟩ := aj_look_le (k := k) hl hSo (hS S hSo) hx
        rw [e] at e2
        cases e2
        exact e3
theorem c_enter {P : aj_P} {m : Nat} {I0 : SI} {F0 : SF} {Post : SI → SF → Prop} (hw : wfP P) (hc : cT P I0 F0) (hm : m < 8) (h : ∀ I' F', kC I0 F0 I' F' → (∀ p, p < 120 → F' 4 p = -1 ∧ F' 9 p = 0) → I' 0 = 0 → cN (aj_in P m) I' → Post I' F') : wp_Ju_enter m I0 F0 Post := by
  have key : ∀ d {t : Nat} {F : SF}, t + d = 120 → kC I0 F0 I0 F → (∀ p, p < t → F 4 p = -1 ∧ F 9 p = 0) → wp_Ju_enter_2 Post (d + 1) m (nI t) I0 F := by
    intro d
    induction d with
    | zero =>
      intro t F ht hk hF
      unfold wp_Ju_enter_2
      refine ⟨fun _ => ?_, fun z => absurd (show 120 ≤ nI t by rw [show t = 120 by omega]; decide) z⟩
      obtain ⟨w1, w2, w3, -⟩ := hw m hm
      obtain ⟨c1, c2, c3, -⟩ := hc m hm
      have e21 : (va_up (va_up (va_up I0 0 0) 5 0) 6 0) (21 + 10 * m) = nI (P.1 m 1) := by
        rw [va_up_ne _ _ (by omega), va_up_ne _ _ (by omega), va_up_ne _ _ (by omega), c2]
      have e22 : (va_up (va_up (va_up I0 0 0) 5 0) 6 0) (22 + 10 * m) = nI (P.1 m 2) := by
        rw [va_up_ne _ _ (by omega), va_up_ne _ _ (by omega), va_up_ne _ _ (by omega), c3]
      rw [va_up_ne _ _ (show 22 + 10 * m ≠ 7 by omega), e21, e22]
      refine h _ _ ⟨fun i hi => ?_, fun j hj => hk.2 j hj⟩ (fun p hp => hF p (by omega)) rfl ⟨rfl, ?_, ?_, ?_⟩
      · rw [va_up_ne _ _ (by omega), va_up_ne _ _ (by omega), va_up_ne _ _ (by omega), va_up_ne _ _ (by omega), va_up_ne _ _ (by omega)]
      · exact bs_cg bs_0 (fun i hi => absurd hi (Nat.not_lt_zero _))
      · show bs 10 (fun k => decide ((if P.1 m 1 ≤ k then 0 else if (P.1 m 2).testBit k = true then 2 else 1) = 1)) ((((1 : Int32) <<< (nI (P.1 m 1) &&& 31)) - 1) &&& (nI (P.1 m 2) ^^^ (-1)))
        intro i hi
        rw [b_and, b_mask (by omega) hi, b_xor, bt_nI _ hi, b_m1 i hi]
        show (decide (i < P.1 m 1) && ((P.1 m 2).testBit i ^^ true)) = (decide (i < 10) && decide ((if P.1 m 1 ≤ i then 0 else if (P.1 m 2).testBit i = true then 2 else 1) = 1))
        by_cases q : i < P.1 m 1
        · rw [decide_eq_true q, decide_eq_true (show i < 10 by omega), if_neg (by omega)]
          cases (P.1 m 2).testBit i <;> rfl
        · rw [decide_eq_false q, if_pos (by omega)]
          simp
      · show bs 10 (fun k => decide ((if P.1 m 1 ≤ k then 0 else if (P.1 m 2).testBit k = true then 2 else 1) = 2)) (nI (P.1 m 2))
        refine bs_cg (bs_nI (n := 10) (Nat.lt_of_lt_of_le w3 (Nat.pow_le_pow_right (by decide) (by omega)))) (fun i hi => ?_)
        by_cases q : P.1 m 1 ≤ i
        · rw [if_pos q, tb_hi w3 q]; rfl
        · rw [if_neg q]
          cases (P.1 m 2).testBit i <;> rfl
    | succ d ih =>
      intro t F ht hk hF
      unfold wp_Ju_enter_2
      have hv := vp_in_nI (show t < 120 by omega) (show 120 < 2 ^ 31 by decide)
      refine ⟨fun z => absurd z (nI_ge (show t < 120 by omega) (by decide)), fun _ => ⟨hv, hv, fun x4 e4 => ?_⟩⟩
      subst e4
      rw [nI_1, cl (show t < 2 ^ 31 by omega), n_nar0]
      refine ih (by omega) ⟨fun _ _ => rfl, fun j hj => ?_⟩ (fun p hp => ?_)
      · rw [va_up_ne _ _ (by omega), va_up_ne _ _ (by omega)]
        exact hk.2 j hj
      · show upd (F 4) t (-1) p = -1 ∧ upd (F 9) t 0 p = 0
        by_cases q : p = t
        · subst q
          exact ⟨if_pos rfl, if_pos rfl⟩
        · obtain ⟨g1, g2⟩ := hF p (by omega)
          exact ⟨(if_neg q).trans g1, (if_neg q).trans g2⟩
  exact ⟨121, key 120 rfl kC_rf (fun p hp => absurd hp (Nat.not_lt_zero _))⟩
theorem c_app {P : aj_P} {m : Nat} {I : SI} {F : SF} {Post : Int32 → SI → SF → Prop} (hw : wfP P) (hc : cT P I F) (hm : m < 8) (h : ∀ r I' F', kC I F I' F' → jA P m r F' → Post r I' F') : wp_Ju_approves m I F Post := by
  have hs := s120 hw hm
  have hl := (hw m hm).2.2.2.2.2.1
  refine ⟨_, c_enter hw hc hm ?_, fun _ _ q => q⟩
  intro I1 F1 k1 f1 i0 n1
  have hJ : cJ (fun _ => none) F1 := fun p hp => ⟨fun _ => (f1 p hp).1, fun x z => by cases z⟩
  have hq : cQ (fun _ => false) I1 F1 := by
    have e : aj_nw 120 (fun _ => false) = 0 := nw_0 (fun _ _ => rfl)
    refine ⟨fun p hp => (f1 p hp).2, by rw [i0, e]; rfl, fun i hi => ?_⟩
    rw [e] at hi
    exact absurd hi (Nat.not_lt_zero _)
  refine ⟨_, c_arrive hw (cT_kC hc k1) hm hJ hq n1 wt_in (show (0 : Nat) ≤ 15 by decide) ?_ ?_, fun _ _ _ q => q⟩
  · intro z
    refine z0 (h 0 I1 F1 k1 (Or.inr ⟨rfl, fun S hS => ?_⟩))
    have hsz : 0 < P.1 m 6 := by
      obtain ⟨x, hx, -⟩ := hS.2
      exact (hS.1 0 x hx).1
    have hv : ¬ ((0 : Int32) < 0 ∨ P.1 m 6 ≤ (0 : Int32).toNatClampNeg) := vp_in_nI hsz (by omega)
    unfold aj_arr at z
    rw [if_neg hv] at z
    cases z
  · intro J' k' I' F' e k2 _ j1 q1
    refine z1 ?_
    have hv := (aj_arr_kp e).1
    have hsz : 0 < P.1 m 6 := by
      have := vin_lt hv
      omega
    have hv2 : ¬ ((0 : Int32) < 0 ∨ P.1 m 6 ≤ (0 : Int32).toNatClampNeg) := hv
    unfold aj_arr at e
    rw [if_neg hv2] at e
    have e3 : (J', k') = (va_up (fun _ => none) 0 (some (aj_in P m)), va_up (fun _ => false) 0 true) := (Option.some.inj e).symm
    cases e3
    exact ⟨1321, c_looks hw hc hm h 1320 (t := 0) (kC_tr k1 k2) j1 q1 (aj_first hsz) (fun S hS => aj_first_le hS) (by have := aj_mu_first (P := P) (m := m); omega) (by omega)⟩
