/-! start -/
theorem mkS {wL : (Int32 → SI → SF → (Nat → Int64) → Prop) → Prop} {wM : (SI → SF → Prop) → Prop} {R : SI → SF → SI → SF → Prop} (CQ : Int32 → SI → SF → Prop) (MQ : SI → SF → Prop) (h1 : wL (fun r5 I F _ => CQ r5 I F)) (h2 : wM MQ) (h3 : ∀ r5 I F J G, CQ r5 I F → MQ J G → J 0 = r5 ∧ R I F J G) :
    ∃ P, wL P ∧ ∀ r5 I1 F1 g1, P r5 I1 F1 g1 → ∃ PM, wM PM ∧ ∀ J1 G1, PM J1 G1 → ∃ PT : Int32 → SI → SF → Prop, wp_MM_thrown J1 G1 PT ∧ ∀ t5 J2 G2, PT t5 J2 G2 → t5 = r5 ∧ R I1 F1 J2 G2 := by
  refine ⟨_, h1, fun r5 I1 F1 g1 q => ⟨_, h2, fun J1 G1 w => ⟨fun t J2 G2 => t = J1 0 ∧ J2 = J1 ∧ G2 = G1, ⟨rfl, rfl, rfl⟩, fun t5 J2 G2 z => ?_⟩⟩⟩
  obtain ⟨z1, rfl, rfl⟩ := z
  obtain ⟨a, b⟩ := h3 _ _ _ _ _ q w
  exact ⟨z1.trans a, b⟩
theorem kT_A {J J1 : SI} {G G1 : SF} (h : kA J G J1 G1) : kT J G J1 G1 := ⟨fun i _ b c => h.1 i b c, h.2⟩
/-- an array's length is given as it may be -/
def ft (P : aj_P) (m i : Nat) (x : Int32) : Prop := (P.1 m 2).testBit i = true → ¬ x < 0 ∧ x < 401
section SA
variable {P : aj_P} {m : Nat} {I : SI} {F : SF} {J : SI} {G : SF}
theorem ev_tk {i : Nat} {Post : Int32 → SI → SF → Prop} (hw : wfP P) (hc : cT P I F) (hm : m < 8) (hi : i < 32) : wp_Me_takesArray m (nI i) I F Post ↔ Post (bi ((P.1 m 2).testBit i = true)) I F := by
  have w3 := (hw m hm).2.2.1
  have bb := bs_bit (bs_nI w3) hi
  unfold wp_Me_takesArray
  rw [(hc m hm).2.2.1]
  by_cases q : (P.1 m 2).testBit i = true
  · have hn : i < P.1 m 1 := Nat.lt_of_not_le (fun w => by rw [tb_hi w3 w] at q; cases q)
    have z : ¬ ((nI (P.1 m 2) >>> (nI i &&& 31)) &&& 1) = 0 := fun w => bb.mp w ⟨hn, q⟩
    rw [bi_y q]
    exact ⟨fun w => w.2 z, fun w => ⟨fun y => absurd y z, fun _ => w⟩⟩
  · have z : ((nI (P.1 m 2) >>> (nI i &&& 31)) &&& 1) = 0 := bb.mpr (fun w => q w.2)
    rw [bi_n q]
    exact ⟨fun w => w.1 z, fun w => ⟨fun _ => w, fun y => absurd z y⟩⟩
theorem ev_fit {i : Nat} {x : Int32} {Post : Int32 → SI → SF → Prop} (hw : wfP P) (hc : cT P I F) (hm : m < 8) (hi : i < 32) : wp_CJ_cellsFit m (nI i) x I F Post ↔ Post (bi (ft P m i x)) I F := by
  unfold wp_CJ_cellsFit wp_CJ_cellsFit_18
  simp only [ev_tk hw hc hm hi, ex3, ev_below]
  by_cases q : (P.1 m 2).testBit i = true
  · by_cases q2 : ¬ x < 0 ∧ x < 401
    · rw [bi_y q, bi_y q2, bi_y (show ft P m i x from fun _ => q2)]
      exact ⟨fun w => (w.2 (by decide)).2 (by decide), fun w => y1 (y1 w)⟩
    · rw [bi_y q, bi_n q2, bi_n (show ¬ ft P m i x from fun w => q2 (w q))]
      exact ⟨fun w => (w.2 (by decide)).1 rfl, fun w => y1 (y0 w)⟩
  · rw [bi_n q, bi_y (show ft P m i x from fun w => absurd w q)]
    exact ⟨fun w => w.1 rfl, fun w => y0 w⟩
/-- the four numbers that are given -/
def xs (a b c d : Int32) (i : Nat) : Int32 := if i = 0 then a else if i = 1 then b else if i = 2 then c else d
theorem ev_of {a b c d : Int32} {i : Nat} {Post : Int32 → SI → SF → Prop} (hi : i < 4) : wp_MM_of (nI i) a b c d J G Post ↔ Post (xs a b c d i) J G := by
  unfold wp_MM_of
  rcases (show i = 0 ∨ i = 1 ∨ i = 2 ∨ i = 3 by omega) with rfl | rfl | rfl | rfl
  · exact ⟨fun w => w.2 rfl, fun w => ⟨fun z => absurd rfl z, fun _ => w⟩⟩
  · exact ⟨fun w => (w.1 (by decide)).2 rfl, fun w => ⟨fun _ => ⟨fun z => absurd rfl z, fun _ => w⟩, fun z => absurd z (by decide)⟩⟩
  · exact ⟨fun w => ((w.1 (by decide)).1 (by decide)).2 rfl, fun w => ⟨fun _ => ⟨fun _ => ⟨fun z => absurd rfl z, fun _ => w⟩, fun z => absurd z (by decide)⟩, fun z => absurd z (by decide)⟩⟩
  · exact ⟨fun w => ((w.1 (by decide)).1 (by decide)).1 (by decide), fun w => ⟨fun _ => ⟨fun _ => ⟨fun _ => w, fun z => absurd z (by decide)⟩, fun z => absurd z (by decide)⟩, fun z => absurd z (by decide)⟩⟩
/-- nothing has run yet -/
def aZ : am := (fun _ => 0, fun _ _ => 0, fun _ _ _ => 0)
noncomputable def aGive (P : aj_P) (m k : Nat) (x : Int32) (A : am) : am := if P.1 m 1 ≤ k then A else if (P.1 m 2).testBit k = true then aLoc (aMake A x.toNatClampNeg) 0 k (nI (A.1 1)) else aLoc A 0 k x
noncomputable def aGs (P : aj_P) (m : Nat) (X : Nat → Int32) : Nat → am
  | 0 => aOpen aZ m
  | t + 1 => aGive P m t (X t) (aGs P m X t)
/-- what holds of the first frame when t numbers have been given -/
def gI (P : aj_P) (m t : Nat) (A : am) : Prop := A.1 0 = 1 ∧ A.1 1 ≤ t ∧ A.1 2 ≤ 400 * t ∧ aH A ∧ A.2.1 0 0 = m ∧ A.2.1 1 0 = 0 ∧ A.2.1 2 0 = 0 ∧ A.1 3 = 0 ∧ A.1 4 = 0 ∧ A.1 5 = 0 ∧ A.2.2 4 0 0 = 0 ∧ ∀ j, j < t → aV (A.1 1) ((aj_in P m).2.2 j) (A.2.2 1 0 j)
theorem gI_0 : gI P m 0 (aOpen aZ m) := by
  refine ⟨rfl, Nat.le_refl _, Nat.le_refl _, ⟨by show (0 : Nat) ≤ 200; omega, by show (0 : Nat) ≤ 2000; omega, fun i hi => absurd hi (Nat.not_lt_zero _)⟩, rfl, rfl, rfl, rfl, rfl, rfl, rfl, fun j hj => absurd hj (Nat.not_lt_zero _)⟩
theorem gI_s {t : Nat} {x : Int32} {A : am} (ht : t < 4) (hf : ft P m t x) (h : gI P m t A) : gI P m (t + 1) (aGive P m t x A) := by
  obtain ⟨a1, a2, a3, a4, a5, a6, a7, a8, a9, a10, a11, a12⟩ := h
  have ein : (aj_in P m).2.2 t = if P.1 m 1 ≤ t then 0 else if (P.1 m 2).testBit t = true then 2 else 1 := rfl
  unfold aGive
  by_cases q : P.1 m 1 ≤ t
  · rw [if_pos q]
    refine ⟨a1, by omega, by omega, a4, a5, a6, a7, a8, a9, a10, a11, fun j hj => ?_⟩
    by_cases w : j = t
    · rw [w, ein, if_pos q]; exact aV_0
    · exact a12 j (by omega)
  · rw [if_neg q]
    by_cases q2 : (P.1 m 2).testBit t = true
    · rw [if_pos q2]
      obtain ⟨n, hn, rfl⟩ := in_nI (n := 401) rfl (by decide) (hf q2)
      rw [cl (show n < 2 ^ 31 by omega)]
      refine ⟨a1, by show A.1 1 + 1 ≤ t + 1; omega, by show A.1 2 + n ≤ 400 * (t + 1); omega, aH_make a4 (by omega) (by omega), a5, a6, a7, a8, a9, a10, a11, fun j hj => ?_⟩
      show aV (A.1 1 + 1) ((aj_in P m).2.2 j) (va_up (A.2.2 1) 0 (va_up (A.2.2 1 0) t (nI (A.1 1))) 0 j)
      rw [va_up_self]
      by_cases w : j = t
      · rw [w, va_up_self]
        exact fun _ => Or.inr (vp_in_nI (by omega) (by omega))
      · rw [va_up_ne _ _ w]
        exact aV_le (Nat.le_succ _) (a12 j (by omega))
    · rw [if_neg q2]
      refine ⟨a1, by show A.1 1 ≤ t + 1; omega, by show A.1 2 ≤ 400 * (t + 1); omega, a4, a5, a6, a7, a8, a9, a10, a11, fun j hj => ?_⟩
      show aV (A.1 1) ((aj_in P m).2.2 j) (va_up (A.2.2 1) 0 (va_up (A.2.2 1 0) t x) 0 j)
      rw [va_up_self]
      by_cases w : j = t
      · rw [w, va_up_self, ein, if_neg q, if_neg q2]; exact aV_1
      · rw [va_up_ne _ _ w]
        exact a12 j (by omega)
theorem gI_t {X : Nat → Int32} (hf : ∀ i, i < 4 → ft P m i (X i)) : ∀ t, t ≤ 4 → gI P m t (aGs P m X t)
  | 0, _ => gI_0
  | t + 1, h => gI_s (by omega) (hf t (by omega)) (gI_t hf t (by omega))
theorem aGs_4 {X : Nat → Int32} : ∀ d t, P.1 m 1 ≤ t → aGs P m X (t + d) = aGs P m X t
  | 0, _, _ => rfl
  | d + 1, t, h => by
    show aGive P m (t + d) (X (t + d)) (aGs P m X (t + d)) = _
    unfold aGive
    rw [if_pos (by omega)]
    exact aGs_4 d t h
/-- the first frame is as the judge knows it -/
theorem gI_S {A : am} {g : Nat → Bool} (hw : wfP P) (hm : m < 8) (hg : ag_set P m g) (h : gI P m 4 A) : aS P A := by
  obtain ⟨a1, a2, a3, a4, a5, a6, a7, a8, a9, a10, a11, a12⟩ := h
  have w2 := (hw m hm).2.1
  refine ⟨by omega, a4, g, hg.2, fun i hi => ?_⟩
  have hi0 : i = 0 := by omega
  subst hi0
  rw [a1, if_neg (by omega), a5]
  refine ⟨hg.1, ?_⟩
  obtain ⟨-, -, K, hK, -⟩ := hg.2 m hg.1
  obtain ⟨z, hz, hle⟩ := hK.1.2
  refine ⟨K, z, by rw [a5]; exact hK, by rw [a6]; exact hz, ?_, fun j hj => ?_, fun j hj => ?_⟩
  · rw [if_pos rfl, a7]; exact hle.1.symm
  · rw [a7] at hj; exact absurd hj (Nat.not_lt_zero _)
  · rcases hle.2.2 j hj with e | e
    · rw [e]; exact aV_0
    · rw [e]
      by_cases w : j < 4
      · exact a12 j w
      · show aV _ (if P.1 m 1 ≤ j then 0 else _) _
        rw [if_pos (by omega)]
        exact aV_0
/-- the class gives a number -/
theorem c_give {k : Nat} {x : Int32} {A : am} {Post : SI → SF → Prop} (hw : wfP P) (hc : cT P I F) (hm : m < 8) (hk : k < 4) (hf : ft P m k x) (hA : cB A I F) (hg : gI P m k A) (hP : ∀ I' F', cB (aGive P m k x A) I' F' → kF I F I' F' → Post I' F') : wp_Ma_give m (nI k) x I F Post := by
  obtain ⟨a1, a2, a3, a4, -⟩ := hg
  have w2 := (hw m hm).2.1
  unfold wp_Ma_give
  simp only [ev_tk hw hc hm (show k < 32 by omega), ex3]
  rw [(hc m hm).2.1]
  unfold aGive at hP
  refine ⟨fun z => ?_, fun z => ?_⟩
  · have : P.1 m 1 ≤ k := (nI_leI (by omega) (by omega)).mp z
    rw [if_pos this] at hP
    exact hP I F hA kF_rf
  · have : ¬ P.1 m 1 ≤ k := fun w => z (nI_le w (by omega))
    rw [if_neg this] at hP
    by_cases q : (P.1 m 2).testBit k = true
    · rw [if_pos q] at hP
      rw [bi_y q]
      obtain ⟨n, hn, rfl⟩ := in_nI (n := 401) rfl (by decide) (hf q)
      rw [cl (show n < 2 ^ 31 by omega)] at hP
      refine y1 ⟨_, cw_make hA a4 (by omega) (by omega) ?_, fun _ _ _ q => q⟩
      intro I2 F2 a k2
      exact ⟨_, cw_loc (f := 0) a a1 (by decide) (by omega) (fun F3 b k3 => hP I2 F3 b (kF_tr k2 k3)), fun _ _ q => q⟩
    · rw [if_neg q] at hP
      rw [bi_n q]
      exact y0 ⟨_, cw_loc (f := 0) hA a1 (by decide) (by omega) (fun F3 b k3 => hP I F3 b k3), fun _ _ q => q⟩
/-- the reference gives the numbers -/
theorem m_gives {a b c d : Int32} {Post : SI → SF → Prop} (hw : wfP P) (hm : m < 8) (hf : ∀ i, i < 4 → ft P m i (xs a b c d i)) : ∀ (e : Nat) {t : Nat} {J1 : SI} {G1 : SF}, t + e = P.1 m 1 → mT P G1 → mB (aGs P m (xs a b c d) t) J1 G1 → (∀ J' G', mB (aGs P m (xs a b c d) (P.1 m 1)) J' G' → kG J1 G1 J' G' → Post J' G') → wp_MM_start_161 Post (e + 1) (nI m) a b c d (nI t) J1 G1 := by
  have w2 := (hw m hm).2.1
  have w3 := (hw m hm).2.2.1
  have hv8 := vp_in_nI hm (show 8 < 2 ^ 31 by decide)
  intro e
  induction e with
  | zero =>
    intro t J1 G1 ht hT hB hP
    unfold wp_MM_start_161
    rw [cl (show m < 2 ^ 31 by omega), (hT m hm).2.1]
    rw [show t = P.1 m 1 by omega] at hB ⊢
    exact ⟨hv8, fun _ => hP J1 G1 hB kG_rf, fun z => absurd (nI_le (Nat.le_refl _) (by omega)) z⟩
  | succ e ih =>
    intro t J1 G1 ht hT hB hP
    have hgi := gI_t hf t (by omega)
    obtain ⟨a1, a2, a3, a4, -⟩ := hgi
    have bb := bs_bit1 (bs_nI w3) (show t < 32 by omega)
    have e10 : 10 * 0 + t = t := by omega
    have st : ∀ (s0 : Int32) (B : am) (J2 : SI) (G2 : SF), kG J1 G1 J2 G2 → mT P G2 → mB B J2 G2 → aGs P m (xs a b c d) (t + 1) = aLoc B 0 t s0 → wp_MM_start_217 (wp_MM_start_161 Post (e + 1)) Post (nI m) a b c d (nI t) s0 (nI t) J2 G2 := by
      intro s0 B J2 G2 k2 t2 b2 eq
      refine ⟨vp_in_nI (show t < 500 by omega) (by decide), fun x13 e13 => ?_⟩
      subst e13
      rw [nI_1, cl (show t < 2 ^ 31 by omega)]
      have b3 := mB_loc (f := 0) (k := t) (v := s0) b2 (by omega)
      rw [← eq, e10] at b3
      exact ih (by omega) (mT_g t2 (fun j hj => va_up_ne _ _ (by omega))) b3 (fun J' G' u k3 => hP J' G' u (kG_tr k2 (kG_tr ⟨fun _ _ _ _ _ => rfl, fun j hj => va_up_ne _ _ (by omega)⟩ k3)))
    have eg : aGs P m (xs a b c d) (t + 1) = if (P.1 m 2).testBit t = true then aLoc (aMake (aGs P m (xs a b c d) t) (xs a b c d t).toNatClampNeg) 0 t (nI ((aGs P m (xs a b c d) t).1 1)) else aLoc (aGs P m (xs a b c d) t) 0 t (xs a b c d t) := by
      show aGive P m t (xs a b c d t) (aGs P m (xs a b c d) t) = _
      unfold aGive
      rw [if_neg (by omega)]
    unfold wp_MM_start_161
    simp only [ev_of (show t < 4 by omega), ex3]
    rw [cl (show m < 2 ^ 31 by omega), (hT m hm).2.1, (hT m hm).2.2.1]
    refine ⟨hv8, fun z => absurd z (nI_ge (show t < P.1 m 1 by omega) (by omega)), fun _ => ⟨hv8, fun z => ?_, fun z => ?_⟩⟩
    · have q : ¬ (P.1 m 2).testBit t = true := fun w => z (bb.mpr ⟨by omega, w⟩)
      rw [if_neg q] at eg
      exact st _ _ J1 G1 kG_rf hT hB eg
    · have q := (bb.mp z).2
      rw [if_pos q] at eg
      obtain ⟨n, hn, en⟩ := in_nI (n := 401) rfl (by decide) (hf t (by omega) q)
      rw [en, cl (show n < 2 ^ 31 by omega)] at eg
      rw [en]
      refine ⟨_, mw_make hB a4 (by omega) (by omega) ?_, fun _ _ _ q => q⟩
      intro J2 G2 b2 k2
      exact st _ _ J2 G2 k2 (mT_kG hT k2) b2 eg
/-- the reference looks at the numbers -/
theorem m_fits {a b c d : Int32} {Post : SI → SF → Prop} (hw : wfP P) (hm : m < 8) (hT : mT P G) (h : wp_MM_start_78 Post (nI m) a b c d 1 (bi (∀ i, i < 4 → ft P m i (xs a b c d i))) J G) : ∀ (e : Nat) {t : Nat}, t + e = 4 → wp_MM_start_14 Post (e + 1) (nI m) a b c d 1 (bi (∀ i, i < t → ft P m i (xs a b c d i))) (nI t) J G := by
  have w3 := (hw m hm).2.2.1
  have hv8 := vp_in_nI hm (show 8 < 2 ^ 31 by decide)
  intro e
  induction e with
  | zero =>
    intro t ht
    unfold wp_MM_start_14
    rw [show t = 4 by omega]
    exact ⟨fun _ => h, fun z => absurd (by decide) z⟩
  | succ e ih =>
    intro t ht
    have bb := bs_bit (bs_nI w3) (show t < 32 by omega)
    have st : ∀ s0 : Int32, s0 = bi (∀ i, i < t + 1 → ft P m i (xs a b c d i)) → wp_MM_start_70 (wp_MM_start_14 Post (e + 1)) Post (nI m) a b c d 1 (nI t) s0 J G := by
      intro s0 e0 x20 e20
      subst e0 e20
      rw [nI_1]
      exact ih (by omega)
    have hs : (∀ i, i < t + 1 → ft P m i (xs a b c d i)) ↔ (∀ i, i < t → ft P m i (xs a b c d i)) ∧ ft P m t (xs a b c d t) := by
      refine ⟨fun q => ⟨fun i hi => q i (by omega), q t (by omega)⟩, fun q i hi => ?_⟩
      by_cases w : i = t
      · rw [w]; exact q.2
      · exact q.1 i (by omega)
    unfold wp_MM_start_14 wp_MM_start_65 wp_MM_start_69
    simp only [ev_of (show t < 4 by omega), ex3, ev_within]
    rw [cl (show m < 2 ^ 31 by omega), (hT m hm).2.2.1]
    refine ⟨fun z => absurd z (nI_ge (show t < 4 by omega) (by decide)), fun _ => ⟨fun z => absurd z (by decide), fun _ => ⟨fun z => st 0 ?_, fun z => ⟨hv8, fun z2 => st 1 ?_, fun z2 => ⟨fun z3 => st 0 ?_, fun z3 => st 1 ?_⟩⟩⟩⟩⟩
    · rw [bi_n (fun q => bi_0.mp z (hs.mp q).1)]
    · refine (bi_y (hs.mpr ⟨bi_1 z, fun q => absurd ⟨?_, q⟩ (bb.mp z2)⟩)).symm
      exact Nat.lt_of_not_le (fun w => by rw [tb_hi w3 w] at q; cases q)
    · have q2 := Classical.not_not.mp (fun w => z2 (bb.mpr w))
      refine (bi_n (fun q => bi_0.mp z3 ?_)).symm
      exact b_w (n := 400) rfl rfl (by decide) ((hs.mp q).2 q2.2)
    · refine (bi_y (hs.mpr ⟨bi_1 z, fun _ => ?_⟩)).symm
      exact w_b (n := 400) rfl rfl (by decide) (bi_1 z3)
end SA
theorem sim_start (n : Nat) (p1 p2 p3 p4 p5 : Int32) (I : SI) (F : SF) (g : Nat → Int64) (J : SI) (G : SF) (hn : n < 512) (h : Rel n I F J G) : wpl_start p1 p2 p3 p4 p5 I F g J G (Rel (n + 1)) := by
  have h0 := h
  obtain ⟨P, hw, hc, hm, hb, hr, hrun⟩ := h
  by_cases c1 : isM P p1
  · obtain ⟨k, hk, rfl, h1⟩ := c1
    have X0 : xs p2 p3 p4 p5 0 = p2 := rfl
    have X1 : xs p2 p3 p4 p5 1 = p3 := rfl
    have X2 : xs p2 p3 p4 p5 2 = p4 := rfl
    have X3 : xs p2 p3 p4 p5 3 = p5 := rfl
    have f4 : (∀ i, i < 4 → ft P k i (xs p2 p3 p4 p5 i)) ↔ ft P k 0 p2 ∧ ft P k 1 p3 ∧ ft P k 2 p4 ∧ ft P k 3 p5 := by
      refine ⟨fun q => ⟨q 0 (by decide), q 1 (by decide), q 2 (by decide), q 3 (by decide)⟩, fun q i hi => ?_⟩
      rcases (show i = 0 ∨ i = 1 ∨ i = 2 ∨ i = 3 by omega) with rfl | rfl | rfl | rfl
      · exact q.1
      · exact q.2.1
      · exact q.2.2.1
      · exact q.2.2.2
    -- the class, up to what it must decide
    have hcl : ∀ (Post : SI → SF → Prop) (PX : Nat → SI → SF → Prop), (¬ (∀ i, i < 4 → ft P k i (xs p2 p3 p4 p5 i)) → PX 2 I F) → ((∀ i, i < 4 → ft P k i (xs p2 p3 p4 p5 i)) → ∃ P10 : Int32 → SI → SF → Prop, wp_CJ_areGoodFrom (nI k) I F P10 ∧ ∀ r10 I10 F10, P10 r10 I10 F10 → ((¬ r10 = 0 → (∃ P12 : SI → SF → Prop, wp_Ma_begin (nI k) I10 F10 P12 ∧ ∀ I12 F12, P12 I12 F12 → (∃ P13 : SI → SF → Prop, wp_Ma_give k 0 p2 I12 F12 P13 ∧ ∀ I13 F13, P13 I13 F13 → (∃ P14 : SI → SF → Prop, wp_Ma_give k 1 p3 I13 F13 P14 ∧ ∀ I14 F14, P14 I14 F14 → (∃ P15 : SI → SF → Prop, wp_Ma_give k 2 p4 I14 F14 P15 ∧ ∀ I15 F15, P15 I15 F15 → (∃ P16 : SI → SF → Prop, wp_Ma_give k 3 p5 I15 F15 P16 ∧ ∀ I16 F16, P16 I16 F16 → Post I16 F16)))))) ∧ (r10 = 0 → PX 3 I10 F10))) → wp_CJ_start (nI k) p2 p3 p4 p5 I F Post PX := by
      intro Post PX hno hyes
      refine ⟨_, _, cP_y hc hk h1 ?_, fun _ _ _ q => q, fun _ _ _ q => q⟩
      refine ⟨_, (ev_fit (i := 0) hw hc hk (by decide)).mpr ?_, fun _ _ _ q => q⟩
      by_cases q0 : ft P k 0 p2
      · rw [bi_y q0]
        refine y1 ⟨_, (ev_fit (i := 1) hw hc hk (by decide)).mpr ?_, fun _ _ _ q => q⟩
        by_cases q1 : ft P k 1 p3
        · rw [bi_y q1]
          refine y1 ⟨_, (ev_fit (i := 2) hw hc hk (by decide)).mpr ?_, fun _ _ _ q => q⟩
          by_cases q2 : ft P k 2 p4
          · rw [bi_y q2]
            refine y1 ⟨_, (ev_fit (i := 3) hw hc hk (by decide)).mpr ?_, fun _ _ _ q => q⟩
            by_cases q3 : ft P k 3 p5
            · rw [bi_y q3]
              exact z1 (hyes (f4.mpr ⟨q0, q1, q2, q3⟩))
            · rw [bi_n q3]
              exact z0 (hno (fun w => q3 (f4.mp w).2.2.2))
          · rw [bi_n q2]
            exact y0 (hno (fun w => q2 (f4.mp w).2.2.1))
        · rw [bi_n q1]
          exact y0 (hno (fun w => q1 (f4.mp w).2.1))
      · rw [bi_n q0]
        exact y0 (hno (fun w => q0 (f4.mp w).1))
    have hml : ∀ Post : SI → SF → Prop, wp_MM_start_78 Post (nI k) p2 p3 p4 p5 1 (bi (∀ i, i < 4 → ft P k i (xs p2 p3 p4 p5 i))) J G → wp_MM_start (nI k) p2 p3 p4 p5 J G Post := by
      intro Post q
      unfold wp_MM_start
      simp only [mP_y hm hk h1, ex3]
      have := m_fits hw hk hm q 4 (t := 0) rfl
      rw [bi_y (show ∀ i, i < 0 → ft P k i (xs p2 p3 p4 p5 i) from fun i hi => absurd hi (Nat.not_lt_zero _))] at this
      exact ⟨5, this⟩
    by_cases c2 : ∀ i, i < 4 → ft P k i (xs p2 p3 p4 p5 i)
    · by_cases c3 : ∃ g, ag_set P k g
      · obtain ⟨gs, hgs⟩ := c3
        have eA : AGb P k = 1 := bi_y ⟨gs, hgs⟩
        have hgi := gI_t c2 4 (Nat.le_refl _)
        refine mkS (fun r5 I1 F1 => r5 = 0 ∧ cB (aGs P k (xs p2 p3 p4 p5) 4) I1 F1 ∧ cT P I1 F1 ∧ I1 1 = 1 ∧ I1 2 = 0 ∧ I1 3 = 0 ∧ I1 4 = 0) (fun J1 G1 => J1 0 = 0 ∧ mB (aGs P k (xs p2 p3 p4 p5) 4) J1 G1 ∧ mT P G1 ∧ J1 4 = 1 ∧ J1 6 = 0 ∧ J1 7 = 0 ∧ J1 8 = 0) ?_ (hml _ ?_) ?_
        · refine ⟨fun I1 F1 => cB (aGs P k (xs p2 p3 p4 p5) 4) I1 F1 ∧ cT P I1 F1 ∧ I1 1 = 1 ∧ I1 2 = 0 ∧ I1 3 = 0 ∧ I1 4 = 0, fun _ _ _ => False, hcl _ _ (fun w => absurd c2 w) (fun _ => ⟨_, c_areGood hw hc hk h1 ?_, fun _ _ _ q => q⟩), fun _ _ _ q => q.elim, fun I1 F1 q => ⟨rfl, q⟩⟩
          intro I1 F1 k1
          rw [eA]
          refine z1 ?_
          have t1 := cT_kC hc k1
          -- begin
          have zI : cB aZ (va_up (va_up (va_up (va_up (va_up (va_up (va_up (va_up I1 1 1) 2 0) 3 0) 4 0) 10 0) 11 0) 12 0) 9 0) F1 := ⟨rfl, rfl, rfl, rfl, fun i hi => absurd hi (Nat.not_lt_zero _), fun i hi => absurd hi (Nat.not_lt_zero _), fun i hi => absurd hi (Nat.not_lt_zero _), fun i _ hi => absurd hi (Nat.not_lt_zero _)⟩
          have zT : cT P (va_up (va_up (va_up (va_up (va_up (va_up (va_up (va_up I1 1 1) 2 0) 3 0) 4 0) 10 0) 11 0) 12 0) 9 0) F1 := cT_f (by decide) (cT_f (by decide) (cT_f (by decide) (cT_f (by decide) (cT_f (by decide) (cT_f (by decide) (cT_f (by decide) (cT_f (by decide) t1)))))))
          refine ⟨_, ?_, fun _ _ q => q⟩
          unfold wp_Ma_begin
          simp only [wp_He_clear, wp_Ou_clear, ex2]
          refine ⟨_, cw_enter (m := k) zI (by decide) ?_, fun _ _ q => q⟩
          intro I2 F2 a2 k2
          have t2 := cT_kF zT k2
          refine ⟨_, c_give (k := 0) hw t2 hk (by decide) (c2 0 (by decide)) a2 gI_0 ?_, fun _ _ q => q⟩
          intro I3 F3 a3 k3
          have t3 := cT_kF t2 k3
          refine ⟨_, c_give (k := 1) hw t3 hk (by decide) (c2 1 (by decide)) a3 (gI_t c2 1 (by decide)) ?_, fun _ _ q => q⟩
          intro I4 F4 a4 k4
          have t4 := cT_kF t3 k4
          refine ⟨_, c_give (k := 2) hw t4 hk (by decide) (c2 2 (by decide)) a4 (gI_t c2 2 (by decide)) ?_, fun _ _ q => q⟩
          intro I5 F5 a5 k5
          have t5 := cT_kF t4 k5
          refine ⟨_, c_give (k := 3) hw t5 hk (by decide) (c2 3 (by decide)) a5 (gI_t c2 3 (by decide)) ?_, fun _ _ q => q⟩
          intro I6 F6 a6 k6
          have kk := kF_tr k2 (kF_tr k3 (kF_tr k4 (kF_tr k5 k6)))
          exact ⟨a6, cT_kF t5 k6, kk.1 1 (by omega), kk.1 2 (by omega), kk.1 3 (by omega), kk.1 4 (by omega)⟩
        · rw [bi_y c2]
          refine y1 (y1 ⟨_, m_allGood hw hm hk h1 ?_, fun _ _ _ q => q⟩)
          intro J1 G1 k1
          rw [eA]
          refine y1 ?_
          unfold wp_MM_start_106
          simp only [ev_goes0 (show ¬ (1 : Int32) = 0 by decide) (show ¬ (1 : Int32) = 0 by decide) (show ¬ (1 : Int32) = 0 by decide), ex3]
          have t1 := mT_kA hm k1
          have zJ : mB aZ (va_up (va_up (va_up (va_up (va_up (va_up (va_up (va_up (va_up J1 0 0) 4 1) 5 0) 6 0) 7 0) 8 0) 9 0) 10 0) 11 0) G1 := ⟨rfl, rfl, rfl, rfl, fun i hi => absurd hi (Nat.not_lt_zero _), fun i hi => absurd hi (Nat.not_lt_zero _), fun i hi => absurd hi (Nat.not_lt_zero _), fun i _ hi => absurd hi (Nat.not_lt_zero _)⟩
          refine ⟨fun _ => ⟨_, mw_open (m := k) zJ (by decide) ?_, fun _ _ q => q⟩, fun z => absurd z (by decide)⟩
          intro J2 G2 b2 k2 _
          refine ⟨P.1 k 1 + 1, m_gives hw hk c2 (P.1 k 1) (t := 0) (by omega) (mT_kG t1 k2) b2 ?_⟩
          intro J3 G3 b3 k3
          have kk := kG_tr k2 k3
          have w4 := (hw k hk).2.1
          have e4 : aGs P k (xs p2 p3 p4 p5) 4 = aGs P k (xs p2 p3 p4 p5) (P.1 k 1) := by
            have := aGs_4 (P := P) (m := k) (X := xs p2 p3 p4 p5) (4 - P.1 k 1) (P.1 k 1) (Nat.le_refl _)
            rw [show P.1 k 1 + (4 - P.1 k 1) = 4 by omega] at this
            exact this
          rw [e4]
          exact ⟨kk.1 0 (by decide) (by decide) (by decide) (by decide), b3, mT_kG (mT_kG t1 k2) k3, kk.1 4 (by decide) (by decide) (by decide) (by decide), kk.1 6 (by decide) (by decide) (by decide) (by decide), kk.1 7 (by decide) (by decide) (by decide) (by decide), kk.1 8 (by decide) (by decide) (by decide) (by decide)⟩
        · intro r5 I1 F1 J1 G1 q1 q2
          obtain ⟨u0, u1, u2, u3, u4, u5, u6⟩ := q1
          obtain ⟨v0, v1, v2, v3, v4, v5, v6⟩ := q2
          refine ⟨by rw [v0, u0], P, hw, u2, v2, by rw [u3]; exact bo_1, by rw [u3, v3], fun _ => ⟨aGs P k (xs p2 p3 p4 p5) 4, cR_mk u1 ?_ ?_ ?_, mR_mk v1 ?_ ?_ ?_, gI_S hw hk hgs hgi, ?_, ?_, ?_⟩⟩
          all_goals obtain ⟨a1, a2, a3, a4, a5, a6, a7, a8, a9, a10, a11, a12⟩ := hgi
          · rw [a9, if_pos rfl, a1, if_neg (by decide)]; exact u4
          · rw [a10]; exact u5
          · rw [a11]; exact u6
          · rw [a9]; exact v4
          · rw [a10]; exact v5
          · rw [a11]; exact v6
          · omega
          · omega
          · omega
      · have eA : AGb P k = 0 := bi_n c3
        refine mkS (fun r5 I1 F1 => r5 = 3 ∧ kC I F I1 F1) (fun J1 G1 => J1 0 = 3 ∧ kT J G J1 G1) ?_ (hml _ ?_) (fun r5 I1 F1 J1 G1 q1 q2 => ⟨by rw [q1.1, q2.1], Rel_k h0 q1.2 q2.2⟩)
        · refine ⟨fun _ _ => False, fun e I1 F1 => e = 3 ∧ kC I F I1 F1, hcl _ _ (fun w => absurd c2 w) (fun _ => ⟨_, c_areGood hw hc hk h1 ?_, fun _ _ _ q => q⟩), fun e I1 F1 q => Or.inr (Or.inr ⟨q.1, rfl, q.2⟩), fun _ _ q => q.elim⟩
          intro I1 F1 k1
          rw [eA]
          exact z0 ⟨rfl, k1⟩
        · rw [bi_y c2]
          refine y1 (y1 ⟨_, m_allGood hw hm hk h1 ?_, fun _ _ _ q => q⟩)
          intro J1 G1 k1
          rw [eA]
          refine y0 ?_
          unfold wp_MM_start_105 wp_MM_start_106
          simp only [ev_goes3 (show ¬ (1 : Int32) = 0 by decide) (show ¬ (1 : Int32) = 0 by decide) (show (0 : Int32) = 0 from rfl), ex3]
          exact ⟨fun z => absurd trivial z, fun _ => ⟨rfl, kT_tr (kT_A k1) kT_0⟩⟩
    · refine mkS (fun r5 I1 F1 => r5 = 2 ∧ kC I F I1 F1) (fun J1 G1 => J1 0 = 2 ∧ kT J G J1 G1) ?_ (hml _ ?_) (fun r5 I1 F1 J1 G1 q1 q2 => ⟨by rw [q1.1, q2.1], Rel_k h0 q1.2 q2.2⟩)
      · exact ⟨fun _ _ => False, fun e I1 F1 => e = 2 ∧ kC I F I1 F1, hcl _ _ (fun _ => ⟨rfl, kC_rf⟩) (fun w => absurd w c2), fun e I1 F1 q => Or.inr (Or.inl ⟨q.1, rfl, q.2⟩), fun _ _ q => q.elim⟩
      · rw [bi_n c2]
        refine y1 (y0 ?_)
        unfold wp_MM_start_105 wp_MM_start_106
        simp only [ev_goes2 (show ¬ (1 : Int32) = 0 by decide) (show (0 : Int32) = 0 from rfl), ex3]
        exact ⟨fun z => absurd trivial z, fun _ => ⟨rfl, kT_0⟩⟩
  · refine mkS (fun r5 I1 F1 => r5 = 1 ∧ kC I F I1 F1) (fun J1 G1 => J1 0 = 1 ∧ kT J G J1 G1) ?_ ?_ (fun r5 I1 F1 J1 G1 q1 q2 => ⟨by rw [q1.1, q2.1], Rel_k h0 q1.2 q2.2⟩)
    · exact ⟨fun _ _ => False, fun e I1 F1 => e = 1 ∧ kC I F I1 F1, ⟨_, _, cP_n hw hc c1 ⟨rfl, kC_rf⟩, fun _ _ _ q => q, fun _ _ _ q => q⟩, fun e I1 F1 q => Or.inl ⟨q.1, rfl, q.2⟩, fun _ _ q => q.elim⟩
    · show wp_MM_start _ _ _ _ _ _ _ _
      unfold wp_MM_start
      simp only [mP_n hw hm c1, ex3]
      refine ⟨1, ?_⟩
      unfold wp_MM_start_14 wp_MM_start_78 wp_MM_start_105 wp_MM_start_106
      simp only [ev_goes1 (show (0 : Int32) = 0 from rfl), ex3]
      exact ⟨fun z => absurd z (by decide), fun _ => ⟨fun _ => ⟨fun _ => ⟨fun z => absurd trivial z, fun _ => ⟨rfl, kT_0⟩⟩, fun z => absurd trivial z⟩, fun z => absurd trivial z⟩⟩
/-- every call keeps the relation -/
theorem lSim_Rel : lSim Rel := ⟨fun _ _ _ _ _ h => Rel_n h, sim_method, sim_add, sim_patch, sim_drop, sim_good, sim_height, sim_type, sim_start, sim_run, sim_state, sim_value, sim_cell, sim_output, sim_count⟩
