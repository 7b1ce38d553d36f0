/-! patch, add -/
def pN (P : aj_P) (k p : Nat) (v : Int32) : aj_P := (P.1, P.2.1, va_up P.2.2 k (va_up (P.2.2 k) p v))
theorem cT_N {P : aj_P} {I : SI} {F : SF} {k p : Nat} {v : Int32} (h : cT P I F) : cT (pN P k p v) I (va_up F (25 + 3 * k) (upd (F (25 + 3 * k)) p v)) := by
  intro j hj
  obtain ⟨a0, a1, a2, a3, a4, a5, a6, a7⟩ := h j hj
  refine ⟨a0, a1, a2, a3, a4, a5, a6, fun q hq => ⟨?_, ?_⟩⟩
  · rw [va_up_ne _ _ (by omega)]
    exact (a7 q hq).1
  · by_cases e : j = k
    · subst e
      rw [va_up_self]
      simp only [pN, upd, va_up]
      by_cases e2 : q = p
      · simp [e2, va_up]
      · simp [e2, va_up]
        exact (a7 q hq).2
    · rw [va_up_ne _ _ (by omega)]
      simp only [pN, va_up, if_neg e]
      exact (a7 q hq).2
theorem mT_N {P : aj_P} {G : SF} {k p : Nat} {v : Int32} (hp : p < 120) (h : mT P G) : mT (pN P k p v) (va_up G 9 (upd (G 9) (120 * k + p) v)) := by
  intro j hj
  obtain ⟨a0, a1, a2, a3, a4, a5, a6, a7⟩ := h j hj
  refine ⟨a0, a1, a2, a3, a4, a5, a6, fun q hq => ⟨(a7 q hq).1, ?_⟩⟩
  rw [va_up_self]
  simp only [pN, upd, va_up]
  by_cases e : j = k
  · subst e
    by_cases e2 : q = p
    · simp [e2, va_up]
    · rw [if_neg (by omega), if_pos rfl]
      simp [e2, va_up]
      exact (a7 q hq).2
  · rw [if_neg (by omega), if_neg e]
    exact (a7 q hq).2
theorem wf_N {P : aj_P} {k p : Nat} {v : Int32} (h : wfP P) : wfP (pN P k p v) := h
theorem i120 {k p : Nat} : ((120 : Int32) * nI k) + nI p = nI (120 * k + p) := by
  rw [show (120 : Int32) = nI 120 from rfl, show nI 120 * nI k = nI (120 * k) from (Int32.ofNat_mul 120 k).symm, nI_add]
theorem sim_patch (n : Nat) (p1 p2 p3 : Int32) (I : SI) (F : SF) (g : Nat → Int64) (J : SI) (G : SF) (hn : n < 512) (h : Rel n I F J G) : wpl_patch p1 p2 p3 I F g J G (Rel (n + 1)) := by
  have h0 := h
  obtain ⟨P, hw, hc, hm, hb, hr, hrun⟩ := h
  by_cases c1 : isP P p1 p2
  · obtain ⟨k, j, hk, rfl, h1, rfl, hj⟩ := c1
    have hs := s120 hw hk
    have hv := vp_in_nI (show j < 120 by omega) (show 120 < 2 ^ 31 by decide)
    refine mkI 0 (P.2.2 k j) (fun I F => cT (pN P k j p3) I F ∧ I 1 = 0) (fun J G => mT (pN P k j p3) G ∧ J 4 = 0) ?_ ?_ (fun I1 F1 J1 G1 q1 q2 _ => Rel_new (wf_N hw) q1.1 q2.1 q1.2 q2.2)
    · refine ⟨fun r I F => r = P.2.2 k j ∧ cT (pN P k j p3) I F ∧ I 1 = 0, fun _ _ _ => False, ⟨_, _, cW_y hw hc hk h1 hj ?_, fun _ _ _ q => q, fun _ _ _ q => q⟩, fun _ _ _ q => q.elim, fun r I F q => ?_⟩
      · simp only [wp_Me_numberAt, wp_Me_renumber, ev_has hc hk, ex3, hs_y hw hk hj, wp_Ma_forget, ex2, cl (show j < 2 ^ 31 by omega)]
        refine ⟨fun r I1 F1 => r = F (25 + 3 * k) j ∧ I1 = I ∧ F1 = F, ⟨fun z => absurd z (by decide), fun _ => ⟨hv, rfl, rfl, rfl⟩⟩, fun r I1 F1 z => ?_⟩
        obtain ⟨rfl, rfl, rfl⟩ := z
        simp only [ev_has hc hk, ex3, hs_y hw hk hj]
        refine ⟨fun I2 F2 => I2 = I1 ∧ F2 = va_up F1 (25 + 3 * k) (upd (F1 (25 + 3 * k)) j p3), ⟨fun z => absurd z (by decide), fun _ => ⟨hv, rfl, rfl⟩⟩, fun I2 F2 z => ?_⟩
        obtain ⟨rfl, rfl⟩ := z
        exact ⟨c_num hc hk (by omega), cT_f (by omega) (cT_N hc), va_up_self _ _ _⟩
      · obtain ⟨rfl, q2, q3⟩ := q
        exact ⟨rfl, fun _ => updL_0 _ _, q2, q3⟩
    · show wp_MM_patch _ _ _ _ _ _
      have hv9 : vp_in (nI (120 * k + j)) 960 := vp_in_nI (by omega) (by decide)
      unfold wp_MM_patch
      simp only [mW_y hw hm hk h1 hj, ex3, ev_goes0 (show ¬ (1 : Int32) = 0 by decide) (show ¬ (1 : Int32) = 0 by decide) (show ¬ (1 : Int32) = 0 by decide), i120, cl (show 120 * k + j < 2 ^ 31 by omega)]
      refine ⟨fun _ => ⟨hv9, fun x hx => ⟨hv9, ?_⟩⟩, fun z => absurd z (by decide)⟩
      exact ⟨rfl, fun _ => hx.trans (m_num hm hk (by omega)), mT_N (by omega) hm, va_up_self _ _ _⟩
  · refine failI 1 (by decide) h0 (fun Post q => ⟨fun _ _ _ => False, fun k I1 F1 => k = 1 ∧ I1 = I ∧ F1 = F, ⟨_, _, cW_n hw hc c1 ⟨rfl, rfl, rfl⟩, fun _ _ _ q => q, fun _ _ _ q => q⟩, fun k I1 F1 z => ⟨z.1, by rw [z.2.1, z.2.2]; exact q⟩, fun _ _ _ z => z.elim⟩) (fun Post q => ?_)
    show wp_MM_patch _ _ _ _ _ _
    unfold wp_MM_patch
    simp only [mW_n hw hm c1, ex3, ev_goes1 (show (0 : Int32) = 0 from rfl)]
    exact ⟨fun z => absurd trivial z, fun _ => q⟩
def pA (P : aj_P) (k o : Nat) (v : Int32) : aj_P := (va_up P.1 k (va_up (P.1 k) 6 (P.1 k 6 + 1)), va_up P.2.1 k (va_up (P.2.1 k) (P.1 k 6) o), va_up P.2.2 k (va_up (P.2.2 k) (P.1 k 6) v))
theorem cT_A {P : aj_P} {I : SI} {F : SF} {k o : Nat} {v : Int32} (h : cT P I F) : cT (pA P k o v) (va_up I (26 + 10 * k) (nI (P.1 k 6 + 1))) (va_up (va_up F (24 + 3 * k) (upd (F (24 + 3 * k)) (P.1 k 6) (nI o))) (25 + 3 * k) (upd ((va_up F (24 + 3 * k) (upd (F (24 + 3 * k)) (P.1 k 6) (nI o))) (25 + 3 * k)) (P.1 k 6) v)) := by
  intro j hj
  obtain ⟨a0, a1, a2, a3, a4, a5, a6, a7⟩ := h j hj
  by_cases q : j = k
  · subst q
    refine ⟨?_, ?_, ?_, ?_, ?_, ?_, ?_, fun p hp => ⟨?_, ?_⟩⟩
    · rw [va_up_ne _ _ (by omega)]; simp [pA, va_up]; exact a0
    · rw [va_up_ne _ _ (by omega)]; simp [pA, va_up]; exact a1
    · rw [va_up_ne _ _ (by omega)]; simp [pA, va_up]; exact a2
    · rw [va_up_ne _ _ (by omega)]; simp [pA, va_up]; exact a3
    · rw [va_up_ne _ _ (by omega)]; simp [pA, va_up]; exact a4
    · rw [va_up_ne _ _ (by omega)]; simp [pA, va_up]; exact a5
    · rw [va_up_self]; simp [pA, va_up]
    · rw [va_up_ne _ _ (by omega), va_up_self]
      simp only [pA, va_up, upd]
      by_cases e : p = P.1 j 6
      · simp [e, va_up, upd]
      · simp [e, va_up, upd]; exact (a7 p hp).1
    · rw [va_up_self, va_up_ne _ _ (by omega)]
      simp only [pA, va_up, upd]
      by_cases e : p = P.1 j 6
      · simp [e, va_up, upd]
      · simp [e, va_up, upd]; exact (a7 p hp).2
  · refine ⟨?_, ?_, ?_, ?_, ?_, ?_, ?_, fun p hp => ⟨?_, ?_⟩⟩
    · rw [va_up_ne _ _ (by omega)]; simp [pA, va_up, q]; exact a0
    · rw [va_up_ne _ _ (by omega)]; simp [pA, va_up, q]; exact a1
    · rw [va_up_ne _ _ (by omega)]; simp [pA, va_up, q]; exact a2
    · rw [va_up_ne _ _ (by omega)]; simp [pA, va_up, q]; exact a3
    · rw [va_up_ne _ _ (by omega)]; simp [pA, va_up, q]; exact a4
    · rw [va_up_ne _ _ (by omega)]; simp [pA, va_up, q]; exact a5
    · rw [va_up_ne _ _ (by omega)]; simp [pA, va_up, q]; exact a6
    · rw [va_up_ne _ _ (by omega), va_up_ne _ _ (by omega)]; simp [pA, va_up, q]; exact (a7 p hp).1
    · rw [va_up_ne _ _ (by omega), va_up_ne _ _ (by omega)]; simp [pA, va_up, q]; exact (a7 p hp).2
theorem mT_A {P : aj_P} {G : SF} {k o : Nat} {v : Int32} (hs : P.1 k 6 < 120) (h : mT P G) : mT (pA P k o v) (va_up (va_up (va_up G 8 (upd (G 8) (120 * k + P.1 k 6) (nI o))) 9 (upd (G 9) (120 * k + P.1 k 6) v)) 7 (upd (G 7) k (nI (P.1 k 6 + 1)))) := by
  intro j hj
  obtain ⟨a0, a1, a2, a3, a4, a5, a6, a7⟩ := h j hj
  by_cases q : j = k
  · subst q
    refine ⟨?_, ?_, ?_, ?_, ?_, ?_, fun _ => ?_, fun p hp => ⟨?_, ?_⟩⟩
    · simp [pA, va_up]; exact a0
    · simp [pA, va_up]; exact a1
    · simp [pA, va_up]; exact a2
    · simp [pA, va_up]; exact a3
    · simp [pA, va_up]; exact a4
    · simp [pA, va_up]; exact a5
    · simp [pA, va_up, upd]
    · simp only [pA, va_up, upd]
      by_cases e : p = P.1 j 6
      · simp [e, va_up, upd]
      · simp [e, va_up, upd]; exact (a7 p hp).1
    · simp only [pA, va_up, upd]
      by_cases e : p = P.1 j 6
      · simp [e, va_up, upd]
      · simp [e, va_up, upd]; exact (a7 p hp).2
  · refine ⟨?_, ?_, ?_, ?_, ?_, ?_, ?_, fun p hp => ⟨?_, ?_⟩⟩
    · simp [pA, va_up, q]; exact a0
    · simp [pA, va_up, q]; exact a1
    · simp [pA, va_up, q]; exact a2
    · simp [pA, va_up, q]; exact a3
    · simp [pA, va_up, q]; exact a4
    · simp [pA, va_up, q]; exact a5
    · simp [pA, va_up, upd, q]; exact a6
    · have e : ¬ 120 * j + p = 120 * k + P.1 k 6 := by omega
      simp [pA, va_up, upd, q, e]; exact (a7 p hp).1
    · have e : ¬ 120 * j + p = 120 * k + P.1 k 6 := by omega
      simp [pA, va_up, upd, q, e]; exact (a7 p hp).2
theorem wf_A {P : aj_P} {k o : Nat} {v : Int32} (hs : P.1 k 6 < 120) (ho : o ≤ 25) (h : wfP P) : wfP (pA P k o v) := by
  intro j hj
  obtain ⟨a0, a1, a2, a3, a4, a5, a6, a7, a8⟩ := h j hj
  by_cases q : j = k
  · subst q
    refine ⟨?_, ?_, ?_, ?_, ?_, ?_, ?_, ?_, fun p hp => ?_⟩
    all_goals simp [pA, va_up]
    all_goals try assumption
    all_goals try omega
    by_cases e : p = P.1 j 6
    · simp [e]; exact ho
    · simp [e]; exact a8 p hp
  · refine ⟨?_, ?_, ?_, ?_, ?_, ?_, ?_, ?_, fun p hp => ?_⟩
    all_goals simp [pA, va_up, q]
    all_goals try assumption
    exact a8 p hp
theorem sim_add (n : Nat) (p1 p2 p3 : Int32) (I : SI) (F : SF) (g : Nat → Int64) (J : SI) (G : SF) (hn : n < 512) (h : Rel n I F J G) : wpl_add p1 p2 p3 I F g J G (Rel (n + 1)) := by
  have h0 := h
  obtain ⟨P, hw, hc, hm, hb, hr, hrun⟩ := h
  by_cases c1 : isM P p1
  · obtain ⟨k, hk, rfl, h1⟩ := c1
    have hs := s120 hw hk
    have hv8 := vp_in_nI hk (show 8 < 2 ^ 31 by decide)
    by_cases c2 : ¬ p2 < 0 ∧ p2 < 26
    · have c2' : 0 ≤ p2 ∧ p2 ≤ 25 := b_w (n := 25) rfl rfl (by decide) c2
      obtain ⟨o, ho, rfl⟩ := in_nI (n := 26) rfl (by decide) c2
      by_cases c3 : P.1 k 6 < 120
      · have hv := vp_in_nI c3 (show 120 < 2 ^ 31 by decide)
        have hl : nI (P.1 k 6) < 120 := (nI_ltI (by omega) (by decide)).mpr c3
        have hl2 : ¬ 120 ≤ nI (P.1 k 6) := Int32.not_le.mpr hl
        refine mkI 0 (nI (P.1 k 6 + 1)) (fun I F => cT (pA P k o p3) I F ∧ I 1 = 0) (fun J G => mT (pA P k o p3) G ∧ J 4 = 0) ?_ ?_ (fun I1 F1 J1 G1 q1 q2 _ => Rel_new (wf_A c3 (by omega) hw) q1.1 q2.1 q1.2 q2.2)
        · refine ⟨fun r I F => r = nI (P.1 k 6 + 1) ∧ cT (pA P k o p3) I F ∧ I 1 = 0, fun _ _ _ => False, ⟨_, _, cP_y hc hk h1 ?_, fun _ _ _ q => q, fun _ _ _ q => q⟩, fun _ _ _ q => q.elim, fun r I F q => ?_⟩
          · simp only [ev_below, ex3, bi_y c2, wp_Me_append, wp_Ma_forget, c_size hc hk, ex2, cl (show P.1 k 6 < 2 ^ 31 by omega), nI_1]
            refine ⟨fun _ => ⟨fun _ => ⟨fun I1 F1 => cT (pA P k o p3) I1 F1 ∧ I1 (26 + 10 * k) = nI (P.1 k 6 + 1), ⟨fun z => absurd z hl2, fun _ => ⟨hv, hv, cT_A hc, va_up_self _ _ _⟩⟩, fun I1 F1 z => ?_⟩, fun z => absurd hl z⟩, fun z => absurd z (by decide)⟩
            refine ⟨?_, cT_f (by omega) z.1, va_up_self _ _ _⟩
            rw [va_up_ne _ _ (by omega)]
            exact z.2
          · obtain ⟨rfl, q2, q3⟩ := q
            exact ⟨rfl, fun _ => updL_0 _ _, q2, q3⟩
        · show wp_MM_add _ _ _ _ _ _
          have hv9 : vp_in (nI (120 * k + P.1 k 6)) 960 := vp_in_nI (by omega) (by decide)
          unfold wp_MM_add wp_MM_add_37
          simp only [mP_y hm hk h1, ex3, ev_within, bi_y c2', ev_goes0 (show ¬ (1 : Int32) = 0 by decide) (show ¬ (1 : Int32) = 0 by decide) (show ¬ (1 : Int32) = 0 by decide), cl (show k < 2 ^ 31 by omega), m_size hm hk h1, i120, cl (show 120 * k + P.1 k 6 < 2 ^ 31 by omega), nI_1]
          refine ⟨fun z => absurd z (by decide), fun _ => ⟨hv8, fun z => absurd z hl2, fun _ => ⟨fun _ => ⟨hv8, hv9, hv8, hv9, hv8, hv8, hv8, ?_⟩, fun z => absurd z (by decide)⟩⟩⟩
          refine ⟨rfl, fun _ => ?_, mT_A c3 hm, va_up_self _ _ _⟩
          simp [upd]
      · have hl : ¬ nI (P.1 k 6) < 120 := nI_nlt (b := 120) (by omega) (by omega)
        have hl2 : 120 ≤ nI (P.1 k 6) := Int32.not_lt.mp hl
        refine failI 3 (by decide) h0 (fun Post q => ⟨fun _ _ _ => False, fun k I1 F1 => k = 3 ∧ I1 = I ∧ F1 = F, ⟨_, _, cP_y hc hk h1 ?_, fun _ _ _ q => q, fun _ _ _ q => q⟩, fun k I1 F1 z => Or.inr (Or.inr ⟨z.1, by rw [z.2.1, z.2.2]; exact q⟩), fun _ _ _ z => z.elim⟩) (fun Post q => ?_)
        · simp only [ev_below, ex3, bi_y c2, c_size hc hk]
          exact ⟨fun _ => ⟨fun z => absurd z hl, fun _ => ⟨trivial, trivial, trivial⟩⟩, fun z => absurd z (by decide)⟩
        · show wp_MM_add _ _ _ _ _ _
          unfold wp_MM_add wp_MM_add_36 wp_MM_add_37
          simp only [mP_y hm hk h1, ex3, ev_within, bi_y c2', ev_goes3 (show ¬ (1 : Int32) = 0 by decide) (show ¬ (1 : Int32) = 0 by decide) (show (0 : Int32) = 0 from rfl), cl (show k < 2 ^ 31 by omega), m_size hm hk h1]
          exact ⟨fun z => absurd z (by decide), fun _ => ⟨hv8, fun _ => ⟨fun z => absurd trivial z, fun _ => q⟩, fun z => absurd hl2 z⟩⟩
    · have c2' : bi (0 ≤ p2 ∧ p2 ≤ 25) = 0 := bi_n (fun q => c2 (w_b (n := 25) rfl rfl (by decide) q))
      refine failI 2 (by decide) h0 (fun Post q => ⟨fun _ _ _ => False, fun k I1 F1 => k = 2 ∧ I1 = I ∧ F1 = F, ⟨_, _, cP_y hc hk h1 ?_, fun _ _ _ q => q, fun _ _ _ q => q⟩, fun k I1 F1 z => Or.inr (Or.inl ⟨z.1, by rw [z.2.1, z.2.2]; exact q⟩), fun _ _ _ z => z.elim⟩) (fun Post q => ?_)
      · simp only [ev_below, ex3, bi_n c2]
        exact ⟨fun z => absurd trivial z, fun _ => ⟨trivial, trivial, trivial⟩⟩
      · show wp_MM_add _ _ _ _ _ _
        unfold wp_MM_add wp_MM_add_36 wp_MM_add_37
        simp only [mP_y hm hk h1, ex3, ev_within, c2', ev_goes2 (show ¬ (1 : Int32) = 0 by decide) (show (0 : Int32) = 0 from rfl), cl (show k < 2 ^ 31 by omega), m_size hm hk h1]
        exact ⟨fun z => absurd z (by decide), fun _ => ⟨hv8, fun _ => ⟨fun z => absurd trivial z, fun _ => q⟩, fun _ => ⟨fun z => absurd trivial z, fun _ => q⟩⟩⟩
  · refine failI 1 (by decide) h0 (fun Post q => ⟨fun _ _ _ => False, fun k I1 F1 => k = 1 ∧ I1 = I ∧ F1 = F, ⟨_, _, cP_n hw hc c1 ⟨rfl, rfl, rfl⟩, fun _ _ _ q => q, fun _ _ _ q => q⟩, fun k I1 F1 z => Or.inl ⟨z.1, by rw [z.2.1, z.2.2]; exact q⟩, fun _ _ _ z => z.elim⟩) (fun Post q => ?_)
    show wp_MM_add _ _ _ _ _ _
    unfold wp_MM_add wp_MM_add_36 wp_MM_add_37
    simp only [mP_n hw hm c1, ex3, ev_within, ev_goes1 (show (0 : Int32) = 0 from rfl)]
    exact ⟨fun _ => ⟨fun z => absurd trivial z, fun _ => q⟩, fun z => absurd trivial z⟩
