/-! the reference: all that a method's ways come to call -/
def kA (J : SI) (G : SF) (J' : SI) (G' : SF) : Prop := (∀ i, i ≠ 2 → i ≠ 3 → J' i = J i) ∧ ∀ j, j < 10 ∨ 16 < j → G' j = G j
theorem kA_rf {J : SI} {G : SF} : kA J G J G := ⟨fun _ _ _ => rfl, fun _ _ => rfl⟩
theorem kA_tr {J J1 J2 : SI} {G G1 G2 : SF} (h : kA J G J1 G1) (g : kA J1 G1 J2 G2) : kA J G J2 G2 := ⟨fun i a b => (g.1 i a b).trans (h.1 i a b), fun j a => (g.2 j a).trans (h.2 j a)⟩
theorem kA_M {J J1 : SI} {G G1 : SF} (h : kM J G J1 G1) : kA J G J1 G1 := ⟨h.1, fun j a => h.2 j (by omega)⟩
theorem kA_16 {J : SI} {G : SF} {u : Nat → Int32} : kA J G J (va_up G 16 u) := ⟨fun _ _ _ => rfl, fun j hj => va_up_ne _ _ (by omega)⟩
theorem mT_kA {P : aj_P} {J J1 : SI} {G G1 : SF} (h : mT P G) (g : kA J G J1 G1) : mT P G1 := mT_g h (fun j hj => g.2 j (by omega))
/-- the reference's marks -/
def wG (w : Nat → Bool) (G : SF) : Prop := ∀ k, k < 8 → G 16 k = if w k = true then 1 else 0
theorem wG_z {w : Nat → Bool} {G : SF} (h : wG w G) {k : Nat} (hk : k < 8) : G 16 k = 0 ↔ w k = false := by
  rw [h k hk]
  cases w k <;> simp
theorem wG_up {w : Nat → Bool} {G : SF} {k : Nat} {b : Bool} (h : wG w G) : wG (va_up w k b) (va_up G 16 (upd (G 16) k (if b = true then 1 else 0))) := by
  intro j hj
  show upd (G 16) k (if b = true then 1 else 0) j = _
  by_cases q : j = k
  · subst q
    rw [va_up_self]; exact if_pos rfl
  · rw [va_up_ne _ _ q]; exact (if_neg q).trans (h j hj)
section AG
variable {P : aj_P} {m : Nat} {J0 : SI} {G0 : SF} {Post : Int32 → SI → SF → Prop}
theorem ma_172 {K34 : Int32 → Int32 → SI → SF → Prop} {K43 : Int32 → Int32 → Int32 → SI → SF → Prop} {x2 x3 : Int32} {k : Nat} {J : SI} {G : SF} (h : K43 x2 x3 (nI (k + 1)) J G) : wp_MM_allGood_172 K34 K43 Post x2 x3 (nI k) J G := by
  intro x9 e9
  subst e9
  rw [nI_1]
  exact h
/-- not good, or not called: on to the next method -/
theorem ma_skip {K34 : Int32 → Int32 → SI → SF → Prop} {K43 : Int32 → Int32 → Int32 → SI → SF → Prop} {x2 x3 : Int32} {k : Nat} {J : SI} {G : SF} (hk : k < 8) (hx : x2 = 0 ∨ G 16 k = 0) (h : K43 x2 x3 (nI (k + 1)) J G) : wp_MM_allGood_88 K34 K43 Post x3 (nI k) x2 J G := by
  have hv := vp_in_nI hk (show 8 < 2 ^ 31 by decide)
  have h172 : wp_MM_allGood_172 K34 K43 Post x2 x3 (nI k) J G := ma_172 h
  refine ⟨1, ?_⟩
  unfold wp_MM_allGood_92
  rw [cl (show k < 2 ^ 31 by omega)]
  refine ⟨hv, fun _ => h172, fun _ => ⟨fun _ => h172, fun z => ⟨hv, fun _ => h172, fun z2 => ?_⟩⟩⟩
  exact absurd hx (fun w => w.elim z z2)
theorem ma_92 {K34 : Int32 → Int32 → SI → SF → Prop} {K43 : Int32 → Int32 → Int32 → SI → SF → Prop} {x3 : Int32} {k : Nat} {K : aj_J} {w : Nat → Bool} {J : SI} {G : SF} (hw : wfP P) (hT : mT P G) (hk : k < 8) (hth : P.1 k 0 = 1) (hK : aj_least P k K) (hM : mK K G) (hwk : w k = true) (hG : wG w G) (h : ∀ (w2 : Nat → Bool) (G2 : SF), kA J G J G2 → wG w2 G2 → (∀ j, w2 j = true ↔ w j = true ∨ cls P K k j) → K43 1 x3 (nI (k + 1)) J G2) : wp_MM_allGood_88 K34 K43 Post x3 (nI k) 1 J G := by
  have hs := s120 hw hk
  have hv := vp_in_nI hk (show 8 < 2 ^ 31 by decide)
  have key : ∀ (d : Nat) {t : Nat} {w2 : Nat → Bool} {G2 : SF}, t + d = P.1 k 6 → kA J G J G2 → mK K G2 → wG w2 G2 → (∀ j, w2 j = true ↔ w j = true ∨ ∃ p x, p < t ∧ K p = some x ∧ P.2.1 k p = 23 ∧ (P.2.2 k p).toNatClampNeg = j) → wp_MM_allGood_92 K34 K43 Post (d + 1) 1 x3 (nI k) (nI t) J G2 := by
    intro d
    induction d with
    | zero =>
      intro t w2 G2 ht k2 m2 g2 hj
      have hT2 := mT_kA hT k2
      unfold wp_MM_allGood_92
      rw [cl (show k < 2 ^ 31 by omega), m_size hT2 hk hth]
      refine ⟨hv, fun _ => ma_172 (h w2 G2 k2 g2 (fun j => (hj j).trans ⟨fun q => q.imp id (fun ⟨p, x, _, a⟩ => ⟨p, x, a⟩), fun q => q.imp id (fun ⟨p, x, a, b⟩ => ⟨p, x, ?_, a, b⟩)⟩)), fun z => absurd (nI_le (by omega) (by omega)) z⟩
      have := (hK.1.1 p x a).1
      omega
    | succ d ih =>
      intro t w2 G2 ht k2 m2 g2 hj
      have hT2 := mT_kA hT k2
      have ht2 : t < 120 := by omega
      have htm : t < P.1 k 6 := by omega
      have c23 : nI (P.2.1 k t) = 23 ↔ P.2.1 k t = 23 := nI_eq (by have := (hw k hk).2.2.2.2.2.2.2.2 t ht2; omega) (by decide)
      have hw2 : ¬ G2 16 k = 0 := fun e => by
        have := (wG_z g2 hk).mp e
        rw [(hj k).mpr (Or.inl hwk)] at this
        cases this
      have skip : ¬ (∃ x, K t = some x ∧ P.2.1 k t = 23) → wp_MM_allGood_166 K34 K43 (wp_MM_allGood_92 K34 K43 Post (d + 1)) Post 1 x3 (nI k) (nI t) J G2 := by
        intro hn x15 e15
        subst e15
        rw [nI_1]
        refine ih (by omega) k2 m2 g2 (fun j => (hj j).trans ⟨fun q => q.imp id (fun ⟨p, x, a, b⟩ => ⟨p, x, by omega, b⟩), fun q => q.imp id (fun ⟨p, x, a, b, c, e⟩ => ⟨p, x, ?_, b, c, e⟩)⟩)
        by_cases w : p = t
        · subst w
          exact absurd ⟨x, b, c⟩ hn
        · omega
      have hvi := vp_in_nI (show 120 * k + t < 960 by omega) (show 960 < 2 ^ 31 by decide)
      unfold wp_MM_allGood_92
      rw [cl (show k < 2 ^ 31 by omega), m_size hT2 hk hth, cl (show t < 2 ^ 31 by omega), i120, cl (show 120 * k + t < 2 ^ 31 by omega), m_ord hT2 hk ht2, m_num hT2 hk ht2, hJ_m m2 ht2, n_nar1]
      refine ⟨hv, fun z => absurd z (nI_ge htm (by omega)), fun _ => ⟨fun z => absurd z (by decide), fun _ => ⟨hv, fun z => absurd z hw2, fun _ => ⟨vp_in_nI ht2 (by decide), fun z => skip (fun ⟨x, a, _⟩ => ?_), fun z => ⟨hvi, fun z2 => skip (fun ⟨x, _, b⟩ => z2 (c23.mpr b)), fun z2 => ?_⟩⟩⟩⟩⟩
      · have hx := ((m2 t ht2).2 x a).2.1
        unfold hJ at z
        rw [a] at z
        exact absurd z (nI_m1 (show x.1 < 2 ^ 31 by omega))
      · have h23 := c23.mp z2
        cases e : K t with
        | none =>
          unfold hJ at z
          rw [e] at z
          exact absurd rfl z
        | some x =>
          obtain ⟨v1, -⟩ := aj_call hK.1 e h23
          obtain ⟨q, hq, eq⟩ := vp_in_of v1 (by decide)
          refine ⟨hvi, v1, ?_⟩
          intro x15 e15
          subst e15
          rw [nI_1, eq, cl (show q < 2 ^ 31 by omega)]
          refine ih (by omega) (kA_tr k2 kA_16) m2 (wG_up (b := true) g2) (fun j => ?_)
          by_cases w : j = q
          · subst w
            rw [va_up_self]
            exact ⟨fun _ => Or.inr ⟨t, x, by omega, e, h23, by rw [eq]; exact cl (by omega)⟩, fun _ => rfl⟩
          · rw [va_up_ne _ _ w, hj j]
            refine ⟨fun u => u.imp id (fun ⟨p, x, a, b⟩ => ⟨p, x, by omega, b⟩), fun u => u.imp id (fun ⟨p, x2, a, b, c, d⟩ => ⟨p, x2, ?_, b, c, d⟩)⟩
            by_cases w2 : p = t
            · subst w2
              rw [eq, cl (show q < 2 ^ 31 by omega)] at d
              exact absurd d.symm w
            · omega
  exact ⟨P.1 k 6 + 1, key (P.1 k 6) (t := 0) (w2 := w) (by omega) kA_rf hM hG (fun j => ⟨fun q => Or.inl q, fun q => q.elim id (fun ⟨p, x, a, _⟩ => absurd a (Nat.not_lt_zero _))⟩)⟩
theorem ma_43n {K34 : Int32 → Int32 → SI → SF → Prop} {t : Nat} {J : SI} {G : SF} (h : K34 0 (nI (t + 1)) J G) : ∀ (d : Nat) {k : Nat}, k + d = 8 → wp_MM_allGood_43 K34 Post (d + 1) 0 (nI t) (nI k) J G := by
  intro d
  induction d with
  | zero =>
    intro k hk
    unfold wp_MM_allGood_43
    refine ⟨fun _ x5 e5 => ?_, fun z => absurd (show 8 ≤ nI k by rw [show k = 8 by omega]; decide) z⟩
    subst e5
    rw [nI_1]
    exact h
  | succ d ih =>
    intro k hk
    unfold wp_MM_allGood_43
    exact ⟨fun z => absurd z (nI_ge (show k < 8 by omega) (by decide)), fun _ => y0 (ma_skip (by omega) (Or.inl rfl) (ih (by omega)))⟩
theorem ma_43 {K34 : Int32 → Int32 → SI → SF → Prop} {t : Nat} {w0 : Nat → Bool} (hw : wfP P) (hT : mT P G0) (hE : ∀ (w : Nat → Bool) (J : SI) (G : SF), kA J0 G0 J G → wG w G → bel P m w → (∀ i, w0 i = true → w i = true ∧ gd P i w) → K34 1 (nI (t + 1)) J G) (hF : ∀ (J : SI) (G : SF), kA J0 G0 J G → (¬ ∃ g, ag_set P m g) → K34 0 (nI (t + 1)) J G) : ∀ (d : Nat) {k : Nat} {w : Nat → Bool} {J : SI} {G : SF}, k + d = 8 → kA J0 G0 J G → wG w G → bel P m w → (∀ i, w0 i = true → w i = true) → (∀ i, i < k → w0 i = true → gd P i w) → wp_MM_allGood_43 K34 Post (d + 1) 1 (nI t) (nI k) J G := by
  intro d
  induction d with
  | zero =>
    intro k w J G hk k1 g1 b1 s1 s2
    unfold wp_MM_allGood_43
    refine ⟨fun _ x5 e5 => ?_, fun z => absurd (show 8 ≤ nI k by rw [show k = 8 by omega]; decide) z⟩
    subst e5
    rw [nI_1]
    exact hE w J G k1 g1 b1 (fun i hi => ⟨s1 i hi, s2 i (by have := (b1.1 i (s1 i hi)).1; omega) hi⟩)
  | succ d ih =>
    intro k w J G hk k1 g1 b1 s1 s2
    have k8 : k < 8 := by omega
    have hv := vp_in_nI k8 (show 8 < 2 ^ 31 by decide)
    have hT1 := mT_kA hT k1
    unfold wp_MM_allGood_43
    rw [cl (show k < 2 ^ 31 by omega)]
    refine ⟨fun z => absurd z (nI_ge k8 (by decide)), fun _ => y1 ⟨hv, fun z => ?_, fun z => ⟨hv, fun z2 => ?_, fun z2 => ?_⟩⟩⟩
    · refine ma_skip k8 (Or.inr z) (ih (by omega) k1 g1 b1 s1 (fun i hi h0 => ?_))
      by_cases e : i = k
      · subst e
        have := (wG_z g1 k8).mp z
        rw [s1 i h0] at this
        cases this
      · exact s2 i (by omega) h0
    · have wk : w k = true := by
        cases e : w k with
        | true => rfl
        | false => exact absurd ((wG_z g1 k8).mpr e) z
      rw [(hT1 k k8).1, (b1.1 k wk).2] at z2
      exact absurd z2 n1_ne
    · have wk : w k = true := by
        cases e : w k with
        | true => rfl
        | false => exact absurd ((wG_z g1 k8).mpr e) z
      have hth := (b1.1 k wk).2
      refine ⟨_, m_judge hw hT1 k8 hth ?_, fun _ _ _ q => q⟩
      intro r J2 G2 k2 a
      have e16 : G2 16 = G 16 := k2.2 16 (by omega)
      have g2 : wG w G2 := fun j hj => by rw [e16]; exact g1 j hj
      have kk : kA J0 G0 J2 G2 := kA_tr k1 (kA_M k2)
      rcases a with ⟨rfl, K, hK, hM⟩ | ⟨rfl, hno⟩
      · refine y1 (ma_92 hw (mT_kA hT kk) k8 hth hK hM wk g2 ?_)
        intro w3 G3 k3 g3 hw3
        have b3 : bel P m w3 := by
          obtain ⟨u1, u2, u3⟩ := b1
          refine ⟨fun j hj => ?_, (hw3 m).mpr (Or.inl u2), fun g hg j hj => ?_⟩
          · rcases (hw3 j).mp hj with q | ⟨p, x, e1, e2, e3⟩
            · exact u1 j q
            · have := aj_call hK.1 e1 e2
              rw [← e3]
              exact ⟨vin_lt this.1, this.2⟩
          · rcases (hw3 j).mp hj with q | ⟨p, x, e1, e2, e3⟩
            · exact u3 g hg j q
            · obtain ⟨-, -, L, l1, l2⟩ := hg.2 k (u3 g hg k wk)
              obtain ⟨y, y1, -⟩ := aj_least_eq hK l1 e1
              rw [← e3]
              exact l2 p y y1 e2
        refine ih (by omega) (kA_tr kk k3) g3 b3 (fun i hi => (hw3 i).mpr (Or.inl (s1 i hi))) (fun i hi h0 => ?_)
        by_cases e : i = k
        · subst e
          exact ⟨k8, hth, K, hK, fun j hj => (hw3 j).mpr (Or.inr hj)⟩
        · exact gd_mono (s2 i (by omega) h0) (fun j hj => (hw3 j).mpr (Or.inl hj))
      · refine y0 (ma_skip k8 (Or.inl rfl) (ma_43n (hF J2 G2 kk ?_) d (by omega)))
        rintro ⟨g, hg⟩
        obtain ⟨-, -, L, l1, -⟩ := hg.2 k (b1.2.2 g hg k wk)
        exact hno L l1.1
theorem ma_34n {J : SI} {G : SF} (h : Post 0 J G) : ∀ (d : Nat) {t : Nat}, t + d = 8 → wp_MM_allGood_34 Post (d + 1) 0 (nI t) J G := by
  intro d
  induction d with
  | zero =>
    intro t ht
    unfold wp_MM_allGood_34
    exact ⟨fun _ => ⟨bo_0, h⟩, fun z => absurd (show 8 ≤ nI t by rw [show t = 8 by omega]; decide) z⟩
  | succ d ih =>
    intro t ht
    unfold wp_MM_allGood_34
    exact ⟨fun z => absurd z (nI_ge (show t < 8 by omega) (by decide)), fun _ => ⟨9, ma_43n (ih (t := t + 1) (by omega)) 8 (k := 0) rfl⟩⟩
theorem ma_34 (hw : wfP P) (hT : mT P G0) (h : ∀ (J : SI) (G : SF), kA J0 G0 J G → Post (AGb P m) J G) : ∀ (d : Nat) {t : Nat} {w : Nat → Bool} {J : SI} {G : SF}, t + d = 8 → kA J0 G0 J G → wG w G → bel P m w → ((∀ k, w k = true → gd P k w) ∨ t + 1 ≤ aj_nw 8 w) → wp_MM_allGood_34 Post (d + 1) 1 (nI t) J G := by
  intro d
  induction d with
  | zero =>
    intro t w J G ht k1 g1 b1 hc
    have hg : ∃ g, ag_set P m g := ⟨w, ag_of b1.2.1 (hc.resolve_right (fun q => by have := n8_le (k := w); omega))⟩
    have := h J G k1
    unfold AGb at this
    rw [bi_y hg] at this
    unfold wp_MM_allGood_34
    exact ⟨fun _ => ⟨bo_1, this⟩, fun z => absurd (show 8 ≤ nI t by rw [show t = 8 by omega]; decide) z⟩
  | succ d ih =>
    intro t w J G ht k1 g1 b1 hc
    unfold wp_MM_allGood_34
    refine ⟨fun z => absurd z (nI_ge (show t < 8 by omega) (by decide)), fun _ => ⟨9, ma_43 (m := m) (J0 := J0) (G0 := G0) (w0 := w) hw hT ?_ ?_ 8 (k := 0) rfl k1 g1 b1 (fun _ q => q) (fun i hi => absurd hi (Nat.not_lt_zero _))⟩⟩
    · intro w2 J2 G2 k2 g2 b2 hs
      refine ih (t := t + 1) (by omega) k2 g2 b2 ?_
      by_cases q : ∃ i, i < 8 ∧ w2 i = true ∧ w i = false
      · obtain ⟨i, i8, i1, i2⟩ := q
        rcases hc with hc | hc
        · have := b2.2.2 w (ag_of b1.2.1 hc) i i1
          rw [i2] at this
          cases this
        · have := n8_lt (fun p hp => (hs p hp).1) i8 i2 i1
          exact Or.inr (by omega)
      · refine Or.inl (fun k hk => ?_)
        have hwk : w k = true := by
          cases e : w k with
          | true => rfl
          | false => exact absurd ⟨k, (b2.1 k hk).1, hk, e⟩ q
        exact (hs k hwk).2
    · intro J2 G2 k2 hno
      have := h J2 G2 k2
      unfold AGb at this
      rw [bi_n hno] at this
      exact ma_34n this d (t := t + 1) (by omega)
theorem m_allGood {J : SI} {G : SF} (hw : wfP P) (hT : mT P G) (hm : m < 8) (h1 : P.1 m 0 = 1) (h : ∀ (J' : SI) (G' : SF), kA J G J' G' → Post (AGb P m) J' G') : wp_MM_allGood (nI m) J G Post := by
  have key : ∀ (d : Nat) {t : Nat} {G2 : SF}, t + d = 8 → kA J G J G2 → (∀ k, k < t → G2 16 k = if va_up (fun _ => false) m true k = true then 1 else 0) → wp_MM_allGood_2 Post (d + 1) (nI m) (nI t) J G2 := by
    intro d
    induction d with
    | zero =>
      intro t G2 ht k2 g2
      unfold wp_MM_allGood_2
      refine ⟨fun _ => ⟨9, ma_34 (m := m) (J0 := J) (G0 := G) hw hT h 8 (t := 0) (w := va_up (fun _ => false) m true) rfl k2 (fun k hk => g2 k (by omega)) ⟨fun k hk => ?_, va_up_self _ _ _, fun g hg k hk => ?_⟩ (Or.inr ?_)⟩, fun z => absurd (show 8 ≤ nI t by rw [show t = 8 by omega]; decide) z⟩
      · by_cases q : k = m
        · subst q; exact ⟨hm, h1⟩
        · rw [va_up_ne _ _ q] at hk; cases hk
      · by_cases q : k = m
        · subst q; exact hg.1
        · rw [va_up_ne _ _ q] at hk; cases hk
      · rw [n8_up hm rfl]
        omega
    | succ d ih =>
      intro t G2 ht k2 g2
      have hv := vp_in_nI (show t < 8 by omega) (show 8 < 2 ^ 31 by decide)
      have ct : nI t = nI m ↔ t = m := nI_eq (by omega) (by omega)
      have st : ∀ b : Bool, (b = true ↔ t = m) → wp_MM_allGood_23 (wp_MM_allGood_2 Post (d + 1)) Post (nI m) (nI t) (if b = true then 1 else 0) (nI t) J G2 := by
        intro b hb
        refine ⟨hv, fun x28 e28 => ?_⟩
        subst e28
        rw [nI_1, cl (show t < 2 ^ 31 by omega), nar_bo (show bo (if b = true then 1 else 0) by cases b; exact bo_0; exact bo_1)]
        refine ih (by omega) (kA_tr k2 kA_16) (fun k hk => ?_)
        show upd (G2 16) t (if b = true then 1 else 0) k = _
        by_cases q : k = t
        · subst q
          refine (if_pos rfl).trans ?_
          by_cases q2 : k = m
          · rw [hb.mpr q2, q2, va_up_self]
          · rw [va_up_ne _ _ q2]
            cases b with
            | false => rfl
            | true => exact absurd (hb.mp rfl) q2
        · exact (if_neg q).trans (g2 k (by omega))
      unfold wp_MM_allGood_2
      refine ⟨fun z => absurd z (nI_ge (show t < 8 by omega) (by decide)), fun _ => ⟨fun z => st false ⟨fun q => (by cases q), fun q => absurd (ct.mpr q) z⟩, fun z => st true ⟨fun _ => ct.mp z, fun _ => rfl⟩⟩⟩
  exact ⟨9, key 8 (t := 0) rfl kA_rf (fun k hk => absurd hk (Nat.not_lt_zero _))⟩
end AG
