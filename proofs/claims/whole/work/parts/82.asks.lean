/-! calls that ask the judge -/
theorem mkJ {wL : (Int32 → SI → SF → (Nat → Int64) → Prop) → Prop} {wM : (Int32 → SI → SF → Prop) → Prop} {R : SI → SF → SI → SF → Prop} (VC VM : Int32 → Int32 → Prop) (CR MR : SI → SF → Prop) (h1 : wL (fun r5 I F g => (∃ r, VC r5 r ∧ (r5 = 0 → g (0 : Int32).toNatClampNeg = r.toInt64)) ∧ CR I F)) (h2 : wM (fun b6 J G => VM (J 0) b6 ∧ MR J G)) (hV : ∀ e r e' r', VC e r → VM e' r' → e' = e ∧ (e = 0 → r' = r)) (h3 : ∀ I F J G, CR I F → MR J G → R I F J G) :
    ∃ P, wL P ∧ ∀ r5 I1 F1 g1, P r5 I1 F1 g1 → ∃ PM, wM PM ∧ ∀ b6 J1 G1, PM b6 J1 G1 → ∃ PT : Int32 → SI → SF → Prop, wp_MM_thrown J1 G1 PT ∧ ∀ t5 J2 G2, PT t5 J2 G2 → t5 = r5 ∧ (r5 = 0 → g1 (0 : Int32).toNatClampNeg = b6.toInt64) ∧ R I1 F1 J2 G2 := by
  refine ⟨_, h1, fun r5 I1 F1 g1 q => ⟨_, h2, fun b6 J1 G1 w => ⟨fun t J2 G2 => t = J1 0 ∧ J2 = J1 ∧ G2 = G1, ⟨rfl, rfl, rfl⟩, fun t5 J2 G2 z => ?_⟩⟩⟩
  obtain ⟨⟨r, q1, q2⟩, q3⟩ := q
  obtain ⟨w1, w3⟩ := w
  obtain ⟨z1, rfl, rfl⟩ := z
  obtain ⟨a, b⟩ := hV _ _ _ _ q1 w1
  exact ⟨z1.trans a, fun h => by rw [q2 h, b h], h3 _ _ _ _ q3 w3⟩
theorem mkB {wL : (Int32 → SI → SF → (Nat → Int64) → Prop) → Prop} {wM : (Int32 → SI → SF → Prop) → Prop} {R : SI → SF → SI → SF → Prop} (VC VM : Int32 → Int32 → Prop) (CR MR : SI → SF → Prop) (h1 : wL (fun r5 I F g => (∃ r, VC r5 r ∧ (r5 = 0 → (r = 0 → g (0 : Int32).toNatClampNeg = 0) ∧ (¬ r = 0 → g (0 : Int32).toNatClampNeg = 1))) ∧ CR I F)) (h2 : wM (fun b6 J G => VM (J 0) b6 ∧ MR J G)) (hV : ∀ e r e' r', VC e r → VM e' r' → e' = e ∧ (e = 0 → r' = r)) (h3 : ∀ I F J G, CR I F → MR J G → R I F J G) :
    ∃ P, wL P ∧ ∀ r5 I1 F1 g1, P r5 I1 F1 g1 → ∃ PM, wM PM ∧ ∀ b6 J1 G1, PM b6 J1 G1 → ∃ PT : Int32 → SI → SF → Prop, wp_MM_thrown J1 G1 PT ∧ ∀ t5 J2 G2, PT t5 J2 G2 → t5 = r5 ∧ (r5 = 0 → ((b6 = 0 → g1 (0 : Int32).toNatClampNeg = 0) ∧ (¬ b6 = 0 → g1 (0 : Int32).toNatClampNeg = 1))) ∧ R I1 F1 J2 G2 := by
  refine ⟨_, h1, fun r5 I1 F1 g1 q => ⟨_, h2, fun b6 J1 G1 w => ⟨fun t J2 G2 => t = J1 0 ∧ J2 = J1 ∧ G2 = G1, ⟨rfl, rfl, rfl⟩, fun t5 J2 G2 z => ?_⟩⟩⟩
  obtain ⟨⟨r, q1, q2⟩, q3⟩ := q
  obtain ⟨w1, w3⟩ := w
  obtain ⟨z1, rfl, rfl⟩ := z
  obtain ⟨a, b⟩ := hV _ _ _ _ q1 w1
  exact ⟨z1.trans a, fun h => by rw [b h]; exact q2 h, h3 _ _ _ _ q3 w3⟩
def kT (J : SI) (G : SF) (J' : SI) (G' : SF) : Prop := (∀ i, i ≠ 0 → i ≠ 2 → i ≠ 3 → J' i = J i) ∧ ∀ j, j < 10 ∨ 16 < j → G' j = G j
theorem kT_rf {J : SI} {G : SF} : kT J G J G := ⟨fun _ _ _ _ => rfl, fun _ _ => rfl⟩
theorem kT_tr {J J1 J2 : SI} {G G1 G2 : SF} (h : kT J G J1 G1) (g : kT J1 G1 J2 G2) : kT J G J2 G2 := ⟨fun i a b c => (g.1 i a b c).trans (h.1 i a b c), fun j a => (g.2 j a).trans (h.2 j a)⟩
theorem kT_0 {J : SI} {G : SF} {v : Int32} : kT J G (va_up J 0 v) G := ⟨fun i a _ _ => va_up_ne _ _ a, fun _ _ => rfl⟩
theorem kT_M {J J1 : SI} {G G1 : SF} (h : kM J G J1 G1) : kT J G J1 G1 := ⟨fun i _ b c => h.1 i b c, fun j hj => h.2 j (by omega)⟩
theorem mR_kT {A : am} {J J1 : SI} {G G1 : SF} (h : mR A J G) (g : kT J G J1 G1) : mR A J1 G1 := by
  unfold mR
  rw [g.1 5 (by decide) (by decide) (by decide), g.1 9 (by decide) (by decide) (by decide), g.1 10 (by decide) (by decide) (by decide), g.1 11 (by decide) (by decide) (by decide), g.1 6 (by decide) (by decide) (by decide), g.1 7 (by decide) (by decide) (by decide), g.1 8 (by decide) (by decide) (by decide), g.2 17 (by omega), g.2 18 (by omega), g.2 19 (by omega), g.2 20 (by omega), g.2 21 (by omega), g.2 22 (by omega), g.2 23 (by omega), g.2 24 (by omega), g.2 25 (by omega)]
  exact h
theorem mT_kT {P : aj_P} {J J1 : SI} {G G1 : SF} (h : mT P G) (g : kT J G J1 G1) : mT P G1 := mT_g h (fun j hj => g.2 j (by omega))
theorem Rel_k {n : Nat} {I I1 : SI} {F F1 : SF} {J J1 : SI} {G G1 : SF} (h : Rel n I F J G) (hc : kC I F I1 F1) (hm : kT J G J1 G1) : Rel (n + 1) I1 F1 J1 G1 := by
  obtain ⟨P, h1, h2, h3, h4, h5, h6⟩ := h
  have e1 : I1 1 = I 1 := hc.1 1 (by omega)
  refine ⟨P, h1, cT_kC h2 hc, mT_kT h3 hm, by rw [e1]; exact h4, by rw [e1, hm.1 4 (by decide) (by decide) (by decide)]; exact h5, fun q => ?_⟩
  obtain ⟨A, g1, g2, g3, g4, g5⟩ := h6 (by rw [← e1]; exact q)
  exact ⟨A, cR_kC g1 hc, mR_kT g2 hm, g3, by omega, g5⟩
theorem jA_u {P : aj_P} {m : Nat} {r : Int32} {F : SF} (h : jA P m r F) : r = bi (∃ S, aj_sol P m S) := by
  rcases h with ⟨rfl, K, h1, -⟩ | ⟨rfl, h1⟩
  · rw [bi_y ⟨K, h1.1⟩]
  · rw [bi_n (fun ⟨S, hS⟩ => h1 S hS)]
theorem jM_u {P : aj_P} {m : Nat} {r : Int32} {G : SF} (h : jM P m r G) : r = bi (∃ S, aj_sol P m S) := by
  rcases h with ⟨rfl, K, h1, -⟩ | ⟨rfl, h1⟩
  · rw [bi_y ⟨K, h1.1⟩]
  · rw [bi_n (fun ⟨S, hS⟩ => h1 S hS)]
theorem bi_id {p : Prop} {A : Int32 → Prop} (h : A (bi p)) : (bi p = 0 → A 0) ∧ (¬ bi p = 0 → A 1) := by
  by_cases q : p
  · rw [bi_y q] at h ⊢; exact y1 h
  · rw [bi_n q] at h ⊢; exact y0 h
theorem sim_good (n : Nat) (p1 : Int32) (I : SI) (F : SF) (g : Nat → Int64) (J : SI) (G : SF) (hn : n < 512) (h : Rel n I F J G) : wpl_good p1 I F g J G (Rel (n + 1)) := by
  have h0 := h
  obtain ⟨P, hw, hc, hm, hb, hr, hrun⟩ := h
  by_cases c1 : isM P p1
  · obtain ⟨k, hk, rfl, h1⟩ := c1
    refine mkB (fun e r => e = 0 ∧ r = bi (∃ S, aj_sol P k S)) (fun e r => e = 0 ∧ r = bi (∃ S, aj_sol P k S)) (fun I1 F1 => kC I F I1 F1) (fun J1 G1 => kT J G J1 G1) ?_ ?_ (fun e r e' r' a b => ⟨b.1.trans a.1.symm, fun _ => b.2.trans a.2.symm⟩) (fun I1 F1 J1 G1 a b => Rel_k h0 a b)
    · refine ⟨fun r I1 F1 => r = bi (∃ S, aj_sol P k S) ∧ kC I F I1 F1, fun _ _ _ => False, ⟨_, _, cP_y hc hk h1 ⟨_, c_app hw hc hk ?_, fun _ _ _ q => q⟩, fun _ _ _ q => q, fun _ _ _ q => q⟩, fun _ _ _ q => q.elim, fun r I1 F1 q => ⟨fun z => ?_, fun z => ?_⟩⟩
      · exact ⟨⟨r, ⟨rfl, q.1⟩, fun _ => ⟨fun _ => updL_0 _ _, fun w => absurd z w⟩⟩, q.2⟩
      · exact ⟨⟨r, ⟨rfl, q.1⟩, fun _ => ⟨fun w => absurd w z, fun _ => updL_0 _ _⟩⟩, q.2⟩
      · intro r I1 F1 a b
        have e := jA_u b
        exact ⟨by rw [e]; exact bi_bo, e, a⟩
    · show wp_MM_good _ _ _ _
      unfold wp_MM_good
      simp only [mP_y hm hk h1, ex3, ev_goes0 (show ¬ (1 : Int32) = 0 by decide) (show ¬ (1 : Int32) = 0 by decide) (show ¬ (1 : Int32) = 0 by decide)]
      refine ⟨fun z => absurd z (by decide), fun _ => ⟨_, m_judge hw hm hk h1 ?_, fun _ _ _ q => q⟩⟩
      intro r J1 G1 a b
      have e := jM_u b
      have j0 : J1 0 = 0 := a.1 0 (by decide) (by decide)
      have kk : kT J G J1 G1 := kT_tr kT_0 (kT_M a)
      rw [e]
      exact bi_id (A := fun b6 => (J1 0 = 0 ∧ b6 = bi (∃ S, aj_sol P k S)) ∧ kT J G J1 G1) ⟨⟨j0, rfl⟩, kk⟩
  · refine failZ 1 (by decide) h0 (fun Post q => ⟨fun _ _ _ => False, fun k I1 F1 => k = 1 ∧ I1 = I ∧ F1 = F, ⟨_, _, cP_n hw hc c1 ⟨rfl, rfl, rfl⟩, fun _ _ _ q => q, fun _ _ _ q => q⟩, fun k I1 F1 z => ⟨z.1, by rw [z.2.1, z.2.2]; exact q⟩, fun _ _ _ z => z.elim⟩) (fun Post q => ?_)
    show wp_MM_good _ _ _ _
    unfold wp_MM_good
    simp only [mP_n hw hm c1, ex3, ev_goes1 (show (0 : Int32) = 0 from rfl)]
    exact ⟨fun _ => q, fun z => absurd trivial z⟩
/-- the height at a place -/
def hJ (K : aj_J) (j : Nat) : Int32 := match K j with
  | none => -1
  | some x => nI x.1
theorem hJ_eq {P : aj_P} {m j : Nat} {K L : aj_J} (h : aj_least P m K) (g : aj_least P m L) : hJ K j = hJ L j := by
  unfold hJ
  cases e : K j with
  | none => rw [aj_least_none h g e]
  | some x =>
    obtain ⟨y, h1, h2, -⟩ := aj_least_eq h g e
    rw [h1]
    show nI x.1 = nI y.1
    rw [h2]
theorem hJ_c {K : aj_J} {F : SF} {j : Nat} (h : cJ K F) (hj : j < 120) : F 4 j = hJ K j := by
  unfold hJ
  cases e : K j with
  | none => exact (h j hj).1 e
  | some x => exact ((h j hj).2 x e).2.2.1
theorem hJ_m {K : aj_J} {G : SF} {j : Nat} (h : mK K G) (hj : j < 120) : G 10 j = hJ K j := by
  unfold hJ
  cases e : K j with
  | none => exact (h j hj).1 e
  | some x => exact ((h j hj).2 x e).2.2.1
theorem c_need {P : aj_P} {m : Nat} {I : SI} {F : SF} {Post : SI → SF → Prop} {PX : Nat → SI → SF → Prop} (hw : wfP P) (hc : cT P I F) (hm : m < 8) (hy : ∀ I' F' K, kC I F I' F' → aj_least P m K → cJ K F' → Post I' F') (hn : ∀ I' F', kC I F I' F' → (∀ S, ¬ aj_sol P m S) → PX 3 I' F') : wp_CJ_needGood m I F Post PX := by
  refine ⟨_, c_app hw hc hm ?_, fun _ _ _ q => q⟩
  intro r I' F' a b
  rcases b with ⟨rfl, K, b1, b2⟩ | ⟨rfl, b1⟩
  · exact z1 (hy I' F' K a b1 b2)
  · exact z0 (hn I' F' a b1)
theorem ev_hat {j : Nat} {I : SI} {F : SF} {Post : Int32 → SI → SF → Prop} (hj : j < 120) : wp_Ju_heightAt (nI j) I F Post ↔ Post (F 4 j) I F := by
  unfold wp_Ju_heightAt
  simp only [ev_below, ex3, bi_y (show ¬ nI j < 0 ∧ nI j < 120 from ⟨nI_pos (by omega), nI_lt hj (by decide)⟩), cl (show j < 2 ^ 31 by omega)]
  exact ⟨fun q => (q.2 (by decide)).2, fun q => y1 ⟨vp_in_nI hj (by decide), q⟩⟩
theorem sim_height (n : Nat) (p1 p2 : Int32) (I : SI) (F : SF) (g : Nat → Int64) (J : SI) (G : SF) (hn : n < 512) (h : Rel n I F J G) : wpl_height p1 p2 I F g J G (Rel (n + 1)) := by
  have h0 := h
  obtain ⟨P, hw, hc, hm, hb, hr, hrun⟩ := h
  by_cases c1 : isP P p1 p2
  · obtain ⟨k, j, hk, rfl, h1, rfl, hj⟩ := c1
    have hs := s120 hw hk
    have hj2 : j < 120 := by omega
    refine mkJ (fun e r => (e = 0 ∧ ∃ K, aj_least P k K ∧ r = hJ K j) ∨ (e = 2 ∧ ∀ S, ¬ aj_sol P k S)) (fun e r => (e = 0 ∧ ∃ K, aj_least P k K ∧ r = hJ K j) ∨ (e = 2 ∧ ∀ S, ¬ aj_sol P k S)) (fun I1 F1 => kC I F I1 F1) (fun J1 G1 => kT J G J1 G1) ?_ ?_ ?_ (fun I1 F1 J1 G1 a b => Rel_k h0 a b)
    · refine ⟨fun r I1 F1 => (∃ K, aj_least P k K ∧ r = hJ K j) ∧ kC I F I1 F1, fun e I1 F1 => e = 3 ∧ (∀ S, ¬ aj_sol P k S) ∧ kC I F I1 F1, ⟨_, _, cW_y hw hc hk h1 hj ⟨_, _, c_need hw hc hk ?_ ?_, fun _ _ _ q => q, fun _ _ q => q⟩, fun _ _ _ q => q, fun _ _ _ q => q⟩, fun e I1 F1 q => Or.inr ⟨q.1, ⟨0, Or.inr ⟨rfl, q.2.1⟩, fun w => absurd w (by decide)⟩, q.2.2⟩, fun r I1 F1 q => ⟨⟨r, Or.inl ⟨rfl, q.1⟩, fun _ => updL_0 _ _⟩, q.2⟩⟩
      · intro I1 F1 K a b c
        simp only [ev_hat hj2, ex3]
        exact ⟨⟨K, b, hJ_c c hj2⟩, a⟩
      · intro I1 F1 a b
        exact ⟨rfl, b, a⟩
    · show wp_MM_height _ _ _ _ _
      unfold wp_MM_height
      simp only [mW_y hw hm hk h1 hj, ex3]
      refine ⟨fun z => absurd z (by decide), fun _ => ⟨_, m_judge hw hm hk h1 ?_, fun _ _ _ q => q⟩⟩
      intro r J1 G1 a b
      unfold wp_MM_height_28 wp_MM_height_29
      rcases b with ⟨rfl, K, b1, b2⟩ | ⟨rfl, b1⟩
      · refine y1 ?_
        simp only [ev_goes0 (show ¬ (1 : Int32) = 0 by decide) (show ¬ (1 : Int32) = 0 by decide) (show ¬ (1 : Int32) = 0 by decide), ex3, cl (show j < 2 ^ 31 by omega)]
        exact ⟨fun z => absurd z (by decide), fun _ => ⟨vp_in_nI hj2 (by decide), Or.inl ⟨rfl, K, b1, hJ_m b2 hj2⟩, kT_tr (kT_M a) kT_0⟩⟩
      · refine y0 ?_
        simp only [ev_goes2 (show ¬ (1 : Int32) = 0 by decide) (show (0 : Int32) = 0 from rfl), ex3]
        exact ⟨fun _ => ⟨Or.inr ⟨rfl, b1⟩, kT_tr (kT_M a) kT_0⟩, fun z => absurd trivial z⟩
    · intro e r e' r' a b
      rcases a with ⟨a1, K, a2, a3⟩ | ⟨a1, a2⟩
      · rcases b with ⟨b1, L, b2, b3⟩ | ⟨b1, b2⟩
        · exact ⟨b1.trans a1.symm, fun _ => by rw [b3, a3]; exact hJ_eq b2 a2⟩
        · exact absurd a2.1 (b2 K)
      · rcases b with ⟨b1, L, b2, b3⟩ | ⟨b1, b2⟩
        · exact absurd b2.1 (a2 L)
        · exact ⟨b1.trans a1.symm, fun w => by rw [a1] at w; exact absurd w (by decide)⟩
  · refine failI 1 (by decide) h0 (fun Post q => ⟨fun _ _ _ => False, fun k I1 F1 => k = 1 ∧ I1 = I ∧ F1 = F, ⟨_, _, cW_n hw hc c1 ⟨rfl, rfl, rfl⟩, fun _ _ _ q => q, fun _ _ _ q => q⟩, fun k I1 F1 z => Or.inl ⟨z.1, by rw [z.2.1, z.2.2]; exact q⟩, fun _ _ _ z => z.elim⟩) (fun Post q => ?_)
    show wp_MM_height _ _ _ _ _
    unfold wp_MM_height wp_MM_height_28 wp_MM_height_29
    simp only [mW_n hw hm c1, ex3, ev_goes1 (show (0 : Int32) = 0 from rfl)]
    exact ⟨fun _ => ⟨fun _ => q, fun z => absurd trivial z⟩, fun z => absurd trivial z⟩
/-- the type asked for -/
def tJ (K : aj_J) (j : Nat) (p3 : Int32) (q : Nat) : Int32 := match K j with
  | none => -1
  | some x => if p3 = 0 then (if q < x.1 then nI (x.2.1 q) else -1) else nI (x.2.2 q)
theorem tJ_eq {P : aj_P} {m j q : Nat} {p3 : Int32} {K L : aj_J} (h : aj_least P m K) (g : aj_least P m L) (hq : ¬ p3 = 0 → q < 10) : tJ K j p3 q = tJ L j p3 q := by
  unfold tJ
  cases e : K j with
  | none => rw [aj_least_none h g e]
  | some x =>
    obtain ⟨y, h1, h2, h3, h4⟩ := aj_least_eq h g e
    rw [h1]
    show (if p3 = 0 then (if q < x.1 then nI (x.2.1 q) else -1) else nI (x.2.2 q)) = if p3 = 0 then (if q < y.1 then nI (y.2.1 q) else -1) else nI (y.2.2 q)
    by_cases w : p3 = 0
    · rw [if_pos w, if_pos w, ← h2]
      by_cases w2 : q < x.1
      · rw [if_pos w2, if_pos w2, h3 q w2]
      · rw [if_neg w2, if_neg w2]
    · rw [if_neg w, if_neg w, h4 q (hq w)]
theorem c_stat {K : aj_J} {j q : Nat} {I : SI} {F : SF} {Post : Int32 → SI → SF → Prop} (hj : j < 120) (hq : q < 2 ^ 31) (h : cJ K F) (hP : Post (tJ K j 0 q) I F) : wp_Ju_stackTypeAt (nI j) (nI q) I F Post := by
  unfold wp_Ju_stackTypeAt
  simp only [ev_hat hj, ev_below, ex3, cl (show j < 2 ^ 31 by omega)]
  unfold tJ at hP
  cases e : K j with
  | none =>
    rw [e] at hP
    rw [(h j hj).1 e, bi_n (fun w => by have := w.2; exact nI_pos hq (Int32.lt_trans this (by decide)))]
    exact z0 hP
  | some x =>
    rw [e] at hP
    have hP : Post (if q < x.1 then nI (x.2.1 q) else -1) I F := hP
    obtain ⟨x1, x2, c4, c5, -⟩ := (h j hj).2 x e
    rw [c4]
    by_cases w : q < x.1
    · rw [if_pos w] at hP
      rw [bi_y ⟨nI_pos hq, nI_lt w (by omega)⟩]
      have b5 := bs_bit c5 (show q < 32 by omega)
      refine z1 ⟨vp_in_nI hj (by decide), fun z => ?_, fun z => ?_⟩
      · have : ¬ x.2.1 q = 2 := fun w2 => b5.mp z ⟨w, decide_eq_true w2⟩
        rcases x1.1 q w with w2 | w2
        · rw [w2] at hP; exact hP
        · exact absurd w2 this
      · rcases x1.1 q w with w2 | w2
        · exact absurd (b5.mpr (fun w3 => by have := of_decide_eq_true w3.2; omega)) z
        · rw [w2] at hP; exact hP
    · rw [if_neg w] at hP
      rw [bi_n (fun w2 => w ((nI_ltI hq (by omega)).mp w2.2))]
      exact z0 hP
theorem c_ltat {K : aj_J} {j q : Nat} {I : SI} {F : SF} {Post : Int32 → SI → SF → Prop} (hj : j < 120) (hq : q < 10) (h : cJ K F) (hP : Post (tJ K j 1 q) I F) : wp_Ju_localTypeAt (nI j) (nI q) I F Post := by
  unfold wp_Ju_localTypeAt
  simp only [ev_hat hj, ex3, cl (show j < 2 ^ 31 by omega)]
  unfold tJ at hP
  have hv := vp_in_nI hj (show 120 < 2 ^ 31 by decide)
  cases e : K j with
  | none =>
    rw [e] at hP
    rw [(h j hj).1 e]
    exact ⟨fun z => absurd rfl z, fun _ => hP⟩
  | some x =>
    rw [e] at hP
    have hP : Post (nI (x.2.2 q)) I F := hP
    obtain ⟨x1, x2, c4, c5, c6, c7⟩ := (h j hj).2 x e
    rw [c4]
    have b6 := bs_bit c6 (show q < 32 by omega)
    have b7 := bs_bit c7 (show q < 32 by omega)
    refine ⟨fun _ => ⟨hv, fun z => ⟨hv, fun z2 => ?_, fun z2 => ?_⟩, fun z => ?_⟩, fun z => absurd z (nI_m1 (by omega))⟩
    · have a1 : ¬ x.2.2 q = 1 := fun w2 => b6.mp z ⟨hq, decide_eq_true w2⟩
      have a2 : ¬ x.2.2 q = 2 := fun w2 => b7.mp z2 ⟨hq, decide_eq_true w2⟩
      have a3 := x1.2 q hq
      rw [show x.2.2 q = 0 by omega] at hP
      exact hP
    · have a2 : x.2.2 q = 2 := by
        by_cases w : x.2.2 q = 2
        · exact w
        · exact absurd (b7.mpr (fun w2 => w (of_decide_eq_true w2.2))) z2
      rw [a2] at hP
      exact hP
    · have a2 : x.2.2 q = 1 := by
        by_cases w : x.2.2 q = 1
        · exact w
        · exact absurd (b6.mpr (fun w2 => w (of_decide_eq_true w2.2))) z
      rw [a2] at hP
      exact hP
def isT (P : aj_P) (k : Nat) (p3 p4 : Int32) : Prop := ∃ q, q < 2 ^ 31 ∧ p4 = nI q ∧ (p3 = 0 ∨ p3 = 1 ∧ q < P.1 k 4)
theorem sim_type (n : Nat) (p1 p2 p3 p4 : Int32) (I : SI) (F : SF) (g : Nat → Int64) (J : SI) (G : SF) (hn : n < 512) (h : Rel n I F J G) : wpl_type p1 p2 p3 p4 I F g J G (Rel (n + 1)) := by
  have h0 := h
  obtain ⟨P, hw, hc, hm, hb, hr, hrun⟩ := h
  by_cases c1 : isP P p1 p2
  · obtain ⟨k, j, hk, rfl, h1, rfl, hj⟩ := c1
    have hs := s120 hw hk
    have hj2 : j < 120 := by omega
    have hl := (hw k hk).2.2.2.2.2.1
    have hc4 : I (24 + 10 * k) = nI (P.1 k 4) := (hc k hk).2.2.2.2.1
    have hm5 : G 5 k = nI (P.1 k 4) := (hm k hk).2.2.2.2.1
    by_cases c2 : isT P k p3 p4
    · obtain ⟨q, hq, rfl, ht⟩ := c2
      have hq10 : ¬ p3 = 0 → q < 10 := fun w => by
        rcases ht with w2 | w2
        · exact absurd w2 w
        · omega
      refine mkJ (fun e r => (e = 0 ∧ ∃ K, aj_least P k K ∧ r = tJ K j p3 q) ∨ (e = 2 ∧ ∀ S, ¬ aj_sol P k S)) (fun e r => (e = 0 ∧ ∃ K, aj_least P k K ∧ r = tJ K j p3 q) ∨ (e = 2 ∧ ∀ S, ¬ aj_sol P k S)) (fun I1 F1 => kC I F I1 F1) (fun J1 G1 => kT J G J1 G1) ?_ ?_ ?_ (fun I1 F1 J1 G1 a b => Rel_k h0 a b)
      · refine ⟨fun r I1 F1 => (∃ K, aj_least P k K ∧ r = tJ K j p3 q) ∧ kC I F I1 F1, fun e I1 F1 => e = 3 ∧ (∀ S, ¬ aj_sol P k S) ∧ kC I F I1 F1, ⟨_, _, cW_y hw hc hk h1 hj ?_, fun _ _ _ q => q, fun _ _ _ q => q⟩, fun e I1 F1 q => Or.inr ⟨q.1, ⟨0, Or.inr ⟨rfl, q.2.1⟩, fun w => absurd w (by decide)⟩, q.2.2⟩, fun r I1 F1 q => ⟨⟨r, Or.inl ⟨rfl, q.1⟩, fun _ => updL_0 _ _⟩, q.2⟩⟩
        have h40 : wp_CJ_type_40 (fun r I1 F1 => (∃ K, aj_least P k K ∧ r = tJ K j p3 q) ∧ kC I F I1 F1) (fun e I1 F1 => e = 3 ∧ (∀ S, ¬ aj_sol P k S) ∧ kC I F I1 F1) (nI j) p3 (nI q) k I F := by
          refine ⟨_, _, c_need hw hc hk ?_ ?_, fun _ _ _ q => q, fun _ _ q => q⟩
          · intro I1 F1 K a b c
            refine ⟨fun z => ⟨_, c_ltat hj2 (hq10 z) c ?_, fun _ _ _ q => q⟩, fun z => ⟨_, c_stat hj2 hq c ?_, fun _ _ _ q => q⟩⟩
            · have e : p3 = 1 := by
                rcases ht with w | w
                · exact absurd w z
                · exact w.1
              exact ⟨⟨K, b, by rw [e]⟩, a⟩
            · exact ⟨⟨K, b, by rw [z]⟩, a⟩
          · intro I1 F1 a b
            exact ⟨rfl, b, a⟩
        refine ⟨fun z => absurd z (nI_pos hq), fun _ => ⟨fun _ => h40, fun z => ⟨fun z2 => ?_, fun z2 => ⟨fun _ => h40, fun z3 => ?_⟩⟩⟩⟩
        · rcases ht with w | w
          · exact absurd w z
          · exact absurd w.1 z2
        · rcases ht with w | w
          · exact absurd w z
          · rw [hc4] at z3
            exact absurd (nI_lt w.2 (by omega)) z3
      · show wp_MM_type _ _ _ _ _ _ _
        unfold wp_MM_type
        simp only [mW_y hw hm hk h1 hj, ex3, cl (show k < 2 ^ 31 by omega), hm5]
        have h34 : wp_MM_type_34 (fun b6 J1 G1 => ((J1 0 = 0 ∧ ∃ K, aj_least P k K ∧ b6 = tJ K j p3 q) ∨ (J1 0 = 2 ∧ ∀ S, ¬ aj_sol P k S)) ∧ kT J G J1 G1) (nI k) (nI j) p3 (nI q) J G := by
          unfold wp_MM_type_34 wp_MM_type_39
          refine y1 ⟨_, m_judge hw hm hk h1 ?_, fun _ _ _ q => q⟩
          intro r J1 G1 a b
          unfold wp_MM_type_61 wp_MM_type_62
          rcases b with ⟨rfl, K, b1, b2⟩ | ⟨rfl, b1⟩
          · refine y1 ?_
            simp only [ev_goes0 (show ¬ (1 : Int32) = 0 by decide) (show ¬ (1 : Int32) = 0 by decide) (show ¬ (1 : Int32) = 0 by decide), ex3, cl (show j < 2 ^ 31 by omega)]
            have hv := vp_in_nI hj2 (show 120 < 2 ^ 31 by decide)
            have fin : ∀ b6, b6 = tJ K j p3 q → ((va_up J1 0 0 0 = 0 ∧ ∃ K, aj_least P k K ∧ b6 = tJ K j p3 q) ∨ (va_up J1 0 0 0 = 2 ∧ ∀ S, ¬ aj_sol P k S)) ∧ kT J G (va_up J1 0 0) G1 := fun b6 e => ⟨Or.inl ⟨rfl, K, b1, e⟩, kT_tr (kT_M a) kT_0⟩
            refine ⟨fun _ => ⟨hv, fun z => fin _ ?_, fun z => ⟨fun z2 => ?_, fun z2 => ⟨hv, fun z3 => ?_, fun z3 => fin _ ?_⟩⟩⟩, fun z => absurd z (by decide)⟩
            · unfold tJ
              cases e : K j with
              | none => rfl
              | some x =>
                obtain ⟨-, x2, x3, -⟩ := (b2 j hj2).2 x e
                rw [x3] at z
                exact absurd z (nI_m1 (by omega))
            · unfold wp_MM_type_98
              rw [i10, i16]
              have := hq10 z2
              refine ⟨fun _ => ⟨vp_in_nI (show 10 * j + q < 1200 by omega) (by decide), fin _ ?_⟩, fun w => absurd w z2⟩
              rw [cl (show 10 * j + q < 2 ^ 31 by omega)]
              unfold tJ
              cases e : K j with
              | none => exact absurd ((b2 j hj2).1 e) z
              | some x =>
                obtain ⟨-, x2, x3, x4, x5⟩ := (b2 j hj2).2 x e
                show _ = if p3 = 0 then _ else nI (x.2.2 q)
                rw [if_neg z2, x5 q this]
            · cases e : K j with
              | none => exact absurd ((b2 j hj2).1 e) z
              | some x =>
                obtain ⟨-, x2, x3, x4, x5⟩ := (b2 j hj2).2 x e
                rw [x3] at z3
                have hlt : q < x.1 := (nI_ltI hq (by omega)).mp z3
                unfold wp_MM_type_98
                rw [i10, i16]
                refine ⟨fun w => absurd z2 w, fun _ => ⟨vp_in_nI (show 16 * j + q < 1920 by omega) (by decide), fin _ ?_⟩⟩
                rw [cl (show 16 * j + q < 2 ^ 31 by omega)]
                unfold tJ
                rw [e]
                show _ = if p3 = 0 then (if q < x.1 then nI (x.2.1 q) else -1) else nI (x.2.2 q)
                rw [if_pos z2, if_pos hlt, x4 q hlt]
            · unfold tJ
              cases e : K j with
              | none => rfl
              | some x =>
                obtain ⟨-, x2, x3, x4, x5⟩ := (b2 j hj2).2 x e
                rw [x3] at z3
                show _ = if p3 = 0 then (if q < x.1 then nI (x.2.1 q) else -1) else nI (x.2.2 q)
                rw [if_pos z2, if_neg (fun w => z3 (nI_lt w (by omega)))]
          · refine y0 ?_
            simp only [ev_goes2 (show ¬ (1 : Int32) = 0 by decide) (show (0 : Int32) = 0 from rfl), ex3]
            exact ⟨fun z => absurd trivial z, fun _ => ⟨Or.inr ⟨rfl, b1⟩, kT_tr (kT_M a) kT_0⟩⟩
        refine ⟨fun z => absurd z (by decide), fun _ => ⟨fun z => absurd z (nI_pos hq), fun _ => ⟨fun _ => h34, fun z => ⟨fun z2 => ?_, fun z2 => ⟨vp_in_nI hk (by decide), fun z3 => ?_, fun _ => h34⟩⟩⟩⟩⟩
        · rcases ht with w | w
          · exact absurd w z
          · exact absurd w.1 z2
        · rcases ht with w | w
          · exact absurd w z
          · exact absurd z3 (nI_ge w.2 (by omega))
      · intro e r e' r' a b
        rcases a with ⟨a1, K, a2, a3⟩ | ⟨a1, a2⟩
        · rcases b with ⟨b1, L, b2, b3⟩ | ⟨b1, b2⟩
          · exact ⟨b1.trans a1.symm, fun _ => by rw [b3, a3]; exact tJ_eq b2 a2 hq10⟩
          · exact absurd a2.1 (b2 K)
        · rcases b with ⟨b1, L, b2, b3⟩ | ⟨b1, b2⟩
          · exact absurd b2.1 (a2 L)
          · exact ⟨b1.trans a1.symm, fun w => by rw [a1] at w; exact absurd w (by decide)⟩
    · have nn : ¬ p4 < 0 → (p3 = 0 ∨ p3 = 1 ∧ p4 < nI (P.1 k 4)) → False := by
        intro w1 w2
        obtain ⟨q, hq, rfl⟩ := nI_of w1
        exact c2 ⟨q, hq, rfl, w2.imp id (fun w => ⟨w.1, (nI_ltI hq (by omega)).mp w.2⟩)⟩
      refine failI 1 (by decide) h0 (fun Post q => ⟨fun _ _ _ => False, fun k I1 F1 => k = 1 ∧ I1 = I ∧ F1 = F, ⟨_, _, cW_y hw hc hk h1 hj ?_, fun _ _ _ q => q, fun _ _ _ q => q⟩, fun k I1 F1 z => Or.inl ⟨z.1, by rw [z.2.1, z.2.2]; exact q⟩, fun _ _ _ z => z.elim⟩) (fun Post q => ?_)
      · refine ⟨fun _ => ⟨rfl, rfl, rfl⟩, fun z => ⟨fun z2 => (nn z (Or.inl z2)).elim, fun z2 => ⟨fun _ => ⟨rfl, rfl, rfl⟩, fun z3 => ⟨fun z4 => ?_, fun _ => ⟨rfl, rfl, rfl⟩⟩⟩⟩⟩
        rw [hc4] at z4
        exact (nn z (Or.inr ⟨z3, z4⟩)).elim
      · show wp_MM_type _ _ _ _ _ _ _
        unfold wp_MM_type
        simp only [mW_y hw hm hk h1 hj, ex3, cl (show k < 2 ^ 31 by omega), hm5]
        have h38 : wp_MM_type_38 Post (nI k) (nI j) p3 p4 J G := by
          unfold wp_MM_type_38 wp_MM_type_39 wp_MM_type_61 wp_MM_type_62
          refine y0 ?_
          simp only [ev_goes1 (show (0 : Int32) = 0 from rfl), ex3]
          exact ⟨fun z => absurd trivial z, fun _ => q⟩
        exact ⟨fun z => absurd z (by decide), fun _ => ⟨fun _ => h38, fun z => ⟨fun z2 => (nn z (Or.inl z2)).elim, fun z2 => ⟨fun _ => h38, fun z3 => ⟨vp_in_nI hk (by decide), fun _ => h38, fun z4 => (nn z (Or.inr ⟨z3, Int32.not_le.mp z4⟩)).elim⟩⟩⟩⟩⟩
  · refine failI 1 (by decide) h0 (fun Post q => ⟨fun _ _ _ => False, fun k I1 F1 => k = 1 ∧ I1 = I ∧ F1 = F, ⟨_, _, cW_n hw hc c1 ⟨rfl, rfl, rfl⟩, fun _ _ _ q => q, fun _ _ _ q => q⟩, fun k I1 F1 z => Or.inl ⟨z.1, by rw [z.2.1, z.2.2]; exact q⟩, fun _ _ _ z => z.elim⟩) (fun Post q => ?_)
    show wp_MM_type _ _ _ _ _ _ _
    unfold wp_MM_type wp_MM_type_38 wp_MM_type_39 wp_MM_type_61 wp_MM_type_62
    simp only [mW_n hw hm c1, ex3]
    refine ⟨fun _ => ⟨fun _ => ?_, fun z => absurd trivial z⟩, fun z => absurd trivial z⟩
    simp only [ev_goes1 (show (0 : Int32) = 0 from rfl), ex3]
    exact ⟨fun z => absurd trivial z, fun _ => q⟩
/-- what a method adds to a count -/
noncomputable def sh (P : aj_P) (w : Int32) (k : Nat) : Int32 := if P.1 k 0 = 1 then (if w = 0 then 1 else if w = 1 then nI (P.1 k 6) else bi (∃ S, aj_sol P k S)) else 0
noncomputable def tot (P : aj_P) (w : Int32) : Nat → Int32
  | 0 => 0
  | n + 1 => tot P w n + sh P w n
theorem sim_count (n : Nat) (p1 : Int32) (I : SI) (F : SF) (g : Nat → Int64) (J : SI) (G : SF) (hn : n < 512) (h : Rel n I F J G) : wpl_count p1 I F g J G (Rel (n + 1)) := by
  have h0 := h
  obtain ⟨P, hw, hc, hm, hb, hr, hrun⟩ := h
  by_cases c1 : ¬ p1 < 0 ∧ p1 < 3
  · have c1' : 0 ≤ p1 ∧ p1 ≤ 2 := b_w (n := 2) rfl rfl (by decide) c1
    have p012 : p1 = 0 ∨ p1 = 1 ∨ p1 = 2 := by
      obtain ⟨k, hk, rfl⟩ := in_nI (n := 3) rfl (by decide) c1
      rcases (show k = 0 ∨ k = 1 ∨ k = 2 by omega) with rfl | rfl | rfl
      · exact Or.inl rfl
      · exact Or.inr (Or.inl rfl)
      · exact Or.inr (Or.inr rfl)
    refine mkJ (fun e r => e = 0 ∧ r = tot P p1 8) (fun e r => e = 0 ∧ r = tot P p1 8) (fun I1 F1 => kC I F I1 F1) (fun J1 G1 => kT J G J1 G1) ?_ ?_ (fun e r e' r' a b => ⟨b.1.trans a.1.symm, fun _ => b.2.trans a.2.symm⟩) (fun I1 F1 J1 G1 a b => Rel_k h0 a b)
    · refine ⟨fun r I1 F1 => r = tot P p1 8 ∧ kC I F I1 F1, fun _ _ _ => False, ?_, fun _ _ _ q => q.elim, fun r I1 F1 q => ⟨⟨r, ⟨rfl, q.1⟩, fun _ => updL_0 _ _⟩, q.2⟩⟩
      unfold wp_CJ_count
      simp only [ev_below, ex3, bi_y c1]
      refine z1 ⟨9, ?_⟩
      have key : ∀ (d t : Nat) (I1 : SI) (F1 : SF), t + d = 8 → kC I F I1 F1 → wp_CJ_count_20 (fun r I1 F1 => r = tot P p1 8 ∧ kC I F I1 F1) (fun _ _ _ => False) (d + 1) p1 (tot P p1 t) (nI t) I1 F1 := by
        intro d
        induction d with
        | zero =>
          intro t I1 F1 ht hk
          unfold wp_CJ_count_20
          rw [show t = 8 by omega]
          exact ⟨fun _ => ⟨rfl, hk⟩, fun z => absurd (by decide) z⟩
        | succ d ih =>
          intro t I1 F1 ht hk
          have ht8 : t < 8 := by omega
          have hc1 := cT_kC hc hk
          have hv := vp_in_nI ht8 (show 8 < 2 ^ 31 by decide)
          have nx : ∀ I2 F2, kC I F I2 F2 → wp_CJ_count_52 (wp_CJ_count_20 (fun r I1 F1 => r = tot P p1 8 ∧ kC I F I1 F1) (fun _ _ _ => False) (d + 1)) (fun r I1 F1 => r = tot P p1 8 ∧ kC I F I1 F1) (fun _ _ _ => False) p1 (tot P p1 t + sh P p1 t) (nI t) I2 F2 := by
            intro I2 F2 k2 x6 e6
            subst e6
            rw [nI_1]
            exact ih (t + 1) I2 F2 (by omega) k2
          unfold wp_CJ_count_20
          rw [cl (show t < 2 ^ 31 by omega), (hc1 t ht8).1]
          refine ⟨fun z => absurd z (nI_ge ht8 (by decide)), fun _ => ⟨hv, fun z => ?_, fun z => ⟨hv, ?_⟩⟩⟩
          · have e : sh P p1 t = 0 := if_neg (fun w => by rw [w] at z; exact absurd z n1_ne)
            have := nx I1 F1 hk
            rw [e, Int32.add_zero] at this
            exact this
          · have e1 : P.1 t 0 = 1 := by
              have := (hw t ht8).1
              by_cases w : P.1 t 0 = 1
              · exact w
              · exact absurd (n1_of this w) z
            have es : sh P p1 t = if p1 = 0 then 1 else if p1 = 1 then nI (P.1 t 6) else bi (∃ S, aj_sol P t S) := if_pos e1
            rw [es] at nx
            refine ⟨fun r I2 F2 => r = (if p1 = 0 then 1 else if p1 = 1 then nI (P.1 t 6) else bi (∃ S, aj_sol P t S)) ∧ kC I F I2 F2, ⟨fun z1 => ⟨fun z2 => ⟨_, c_app hw hc1 ht8 ?_, fun _ _ _ q => q⟩, fun z2 => ?_⟩, fun z1 => ?_⟩, fun r I2 F2 q x9 e9 => ?_⟩
            · intro r I2 F2 a b
              have e := jA_u b
              rw [e]
              refine bi_id (A := fun r => r = _ ∧ kC I F I2 F2) ⟨?_, kC_tr hk a⟩
              rw [if_neg z1, if_neg z2]
            · rw [if_neg z1, if_pos z2, c_size hc1 ht8]
              exact ⟨rfl, hk⟩
            · rw [if_pos z1]
              exact ⟨rfl, hk⟩
            · subst e9
              rw [q.1]
              exact nx I2 F2 q.2
      exact key 8 0 I F rfl kC_rf
    · show wp_MM_count _ _ _ _
      unfold wp_MM_count
      simp only [ev_within, ex3, bi_y c1', ev_goes0 (show ¬ (1 : Int32) = 0 by decide) (show ¬ (1 : Int32) = 0 by decide) (show ¬ (1 : Int32) = 0 by decide)]
      refine ⟨fun _ => ⟨9, ?_⟩, fun z => absurd z (by decide)⟩
      have key : ∀ (d t : Nat) (J1 : SI) (G1 : SF), t + d = 8 → J1 0 = 0 → kT J G J1 G1 → wp_MM_count_21 (fun b6 J1 G1 => (J1 0 = 0 ∧ b6 = tot P p1 8) ∧ kT J G J1 G1) (d + 1) p1 (tot P p1 t) (nI t) J1 G1 := by
        intro d
        induction d with
        | zero =>
          intro t J1 G1 ht j0 hk
          unfold wp_MM_count_21
          rw [show t = 8 by omega]
          exact ⟨fun _ => ⟨⟨j0, rfl⟩, hk⟩, fun z => absurd (by decide) z⟩
        | succ d ih =>
          intro t J1 G1 ht j0 hk
          have ht8 : t < 8 := by omega
          have hm1 := mT_kT hm hk
          have hv := vp_in_nI ht8 (show 8 < 2 ^ 31 by decide)
          have nx : ∀ (J2 : SI) (G2 : SF) (s : Int32), J2 0 = 0 → kT J G J2 G2 → s = tot P p1 t + sh P p1 t → wp_MM_count_99 (wp_MM_count_21 (fun b6 J1 G1 => (J1 0 = 0 ∧ b6 = tot P p1 8) ∧ kT J G J1 G1) (d + 1)) (fun b6 J1 G1 => (J1 0 = 0 ∧ b6 = tot P p1 8) ∧ kT J G J1 G1) p1 (nI t) s J2 G2 := by
            intro J2 G2 s j2 k2 e x10 e10
            subst e10 e
            rw [nI_1]
            exact ih (t + 1) J2 G2 (by omega) j2 k2
          unfold wp_MM_count_21 wp_MM_count_50
          rw [cl (show t < 2 ^ 31 by omega), (hm1 t ht8).1]
          have c69 : ∀ s : Int32, ((¬ P.1 t 0 = 1 ∧ s = tot P p1 t) ∨ (P.1 t 0 = 1 ∧ s = tot P p1 t + (if p1 = 0 then 1 else if p1 = 1 then nI (P.1 t 6) else 0))) → wp_MM_count_69 (wp_MM_count_21 (fun b6 J1 G1 => (J1 0 = 0 ∧ b6 = tot P p1 8) ∧ kT J G J1 G1) (d + 1)) (fun b6 J1 G1 => (J1 0 = 0 ∧ b6 = tot P p1 8) ∧ kT J G J1 G1) p1 (nI t) s J1 G1 := by
            intro s hs
            unfold wp_MM_count_69 wp_MM_count_98
            rw [cl (show t < 2 ^ 31 by omega), (hm1 t ht8).1]
            refine ⟨fun z => nx J1 G1 s j0 hk ?_, fun z => ⟨hv, fun z2 => nx J1 G1 s j0 hk ?_, fun z2 => ⟨_, m_judge hw hm1 ht8 ?_ ?_, fun _ _ _ q => q⟩⟩⟩
            · rcases hs with ⟨w1, w2⟩ | ⟨w1, w2⟩
              · rw [show sh P p1 t = 0 from if_neg w1, Int32.add_zero]; exact w2
              · rw [w2]
                have es : sh P p1 t = if p1 = 0 then 1 else if p1 = 1 then nI (P.1 t 6) else bi (∃ S, aj_sol P t S) := if_pos w1
                rw [es]
                rcases p012 with e | e | e
                · rw [if_pos e, if_pos e]
                · have : ¬ p1 = 0 := by rw [e]; decide
                  rw [if_neg this, if_pos e, if_neg this, if_pos e]
                · exact absurd e z
            · rcases hs with ⟨w1, w2⟩ | ⟨w1, w2⟩
              · rw [show sh P p1 t = 0 from if_neg w1, Int32.add_zero]; exact w2
              · rw [w1] at z2; exact absurd z2 n1_ne
            · rcases hs with ⟨w1, w2⟩ | ⟨w1, w2⟩
              · exact absurd (n1_of (hw t ht8).1 w1) z2
              · exact w1
            · intro r J2 G2 a b
              have e := jM_u b
              have k2 : kT J G J2 G2 := kT_tr hk (kT_M a)
              have j2 : J2 0 = 0 := (a.1 0 (by decide) (by decide)).trans j0
              have w12 : P.1 t 0 = 1 ∧ s = tot P p1 t := by
                rcases hs with ⟨w1, w2⟩ | ⟨w1, w2⟩
                · exact absurd (n1_of (hw t ht8).1 w1) z2
                · refine ⟨w1, ?_⟩
                  have a0 : ¬ p1 = 0 := by rw [z]; decide
                  have a1 : ¬ p1 = 1 := by rw [z]; decide
                  rw [if_neg a0, if_neg a1, Int32.add_zero] at w2
                  exact w2
              have es : sh P p1 t = bi (∃ S, aj_sol P t S) := by
                have a0 : ¬ p1 = 0 := by rw [z]; decide
                have a1 : ¬ p1 = 1 := by rw [z]; decide
                unfold sh
                rw [if_pos w12.1, if_neg a0, if_neg a1]
              rw [← es] at e
              refine ⟨fun w => nx J2 G2 s j2 k2 ?_, fun w => nx J2 G2 _ j2 k2 ?_⟩
              · rw [← e, w, Int32.add_zero]; exact w12.2
              · have : r = 1 := by
                  rcases b with ⟨b1, -⟩ | ⟨b1, -⟩
                  · exact b1
                  · exact absurd b1 w
                rw [← e, this, w12.2]
          have cl50 : ∀ s0 : Int32, (P.1 t 0 = 1 → s0 = if p1 = 0 then 1 else if p1 = 1 then nI (P.1 t 6) else 0) → (vp_in (nI t) 8 ∧ ((nI (P.1 t 0) = 0 → wp_MM_count_69 (wp_MM_count_21 (fun b6 J1 G1 => (J1 0 = 0 ∧ b6 = tot P p1 8) ∧ kT J G J1 G1) (d + 1)) (fun b6 J1 G1 => (J1 0 = 0 ∧ b6 = tot P p1 8) ∧ kT J G J1 G1) p1 (nI t) (tot P p1 t) J1 G1) ∧ (¬ nI (P.1 t 0) = 0 → wp_MM_count_69 (wp_MM_count_21 (fun b6 J1 G1 => (J1 0 = 0 ∧ b6 = tot P p1 8) ∧ kT J G J1 G1) (d + 1)) (fun b6 J1 G1 => (J1 0 = 0 ∧ b6 = tot P p1 8) ∧ kT J G J1 G1) p1 (nI t) (tot P p1 t + s0) J1 G1))) := by
            intro s0 hs0
            refine ⟨hv, fun z => c69 _ (Or.inl ⟨fun w => ?_, rfl⟩), fun z => c69 _ (Or.inr ?_)⟩
            · rw [w] at z; exact n1_ne z
            · have w1 : P.1 t 0 = 1 := by
                by_cases w : P.1 t 0 = 1
                · exact w
                · exact absurd (n1_of (hw t ht8).1 w) z
              exact ⟨w1, by rw [hs0 w1]⟩
          refine ⟨fun z => absurd z (nI_ge ht8 (by decide)), fun _ => ⟨fun z => ⟨fun z2 => cl50 0 (fun _ => ?_), fun z2 => ⟨hv, cl50 _ (fun w1 => ?_)⟩⟩, fun z => cl50 1 (fun _ => ?_)⟩⟩
          · rw [if_neg z, if_neg z2]
          · rw [if_neg z, if_pos z2, m_size hm1 ht8 w1]
          · rw [if_pos z]
      exact key 8 0 (va_up J 0 0) G rfl rfl kT_0
  · have c1' : ¬ (0 ≤ p1 ∧ p1 ≤ 2) := fun q => c1 (w_b (n := 2) rfl rfl (by decide) q)
    refine failI 1 (by decide) h0 (fun Post q => ⟨fun _ _ _ => False, fun k I1 F1 => k = 2 ∧ I1 = I ∧ F1 = F, ?_, fun k I1 F1 z => ⟨z.1, by rw [z.2.1, z.2.2]; exact q⟩, fun _ _ _ z => z.elim⟩) (fun Post q => ?_)
    · unfold wp_CJ_count
      simp only [ev_below, ex3, bi_n c1]
      exact ⟨fun z => absurd trivial z, fun _ => ⟨trivial, trivial, trivial⟩⟩
    · show wp_MM_count _ _ _ _
      unfold wp_MM_count
      simp only [ev_within, ex3, bi_n c1', ev_goes1 (show (0 : Int32) = 0 from rfl)]
      exact ⟨fun z => absurd trivial z, fun _ => q⟩
