/-! the reference's judge: a look, and the whole -/
def lkB (Post : SI → SF → Prop) (x1 x2 : Int32) (I : SI) (F : SF) : Prop := (vp_in (((120 : Int32) * x1) + x2) 960 ∧ (∀ x5 : Int32, x5 = ((F 8) (((120 : Int32) * x1) + x2 : Int32).toNatClampNeg) → (vp_in (((120 : Int32) * x1) + x2) 960 ∧ (∀ x7 : Int32, x7 = ((F 9) (((120 : Int32) * x1) + x2 : Int32).toNatClampNeg) → (∃ P8 : SI → SF → Prop, wp_MM_effect x1 x5 x7 I F P8 ∧ ∀ I8 F8, P8 I8 F8 → ((¬ (I8 2) = 0 → (wp_MM_look_127 Post I8 F8)) ∧ ((I8 2) = 0 → (vp_in x1 8 ∧ (((I8 3) ≤ ((F8 6) x1.toNatClampNeg) → ((x5 < 14 → (wp_MM_look_145 Post x1 x2 x5 x7 I8 F8)) ∧ (¬ x5 < 14 → ((x5 ≤ 17 → (wp_MM_look_151 Post x1 x2 x5 x7 I8 F8)) ∧ (¬ x5 ≤ 17 → (wp_MM_look_145 Post x1 x2 x5 x7 I8 F8)))))) ∧ (¬ (I8 3) ≤ ((F8 6) x1.toNatClampNeg) → (wp_MM_look_127 Post I8 F8)))))))))))
section ML
variable {P : aj_P} {m p : Nat} {J : SI} {Post : SI → SF → Prop}
theorem m_lk45 (hp : p < 120) : ∀ (d : Nat) {t : Nat} {G : SF}, t + d = 10 → (∀ G', (∀ j, j ≠ 15 → G' j = G j) → (∀ j, j < t → G' 15 j = G 15 j) → (∀ j, t ≤ j → j < 10 → G' 15 j = G 12 (10 * p + j)) → lkB Post (nI m) (nI p) J G') → wp_MM_look_45 Post (d + 1) (nI m) (nI p) (nI t) J G := by
  intro d
  induction d with
  | zero =>
    intro t G ht hP
    unfold wp_MM_look_45
    refine ⟨fun _ => hP G (fun _ _ => rfl) (fun _ _ => rfl) (fun j a b => by omega), fun z => absurd (show 10 ≤ nI t by rw [show t = 10 by omega]; decide) z⟩
  | succ d ih =>
    intro t G ht hP
    unfold wp_MM_look_45
    rw [i10, cl (show t < 2 ^ 31 by omega), cl (show 10 * p + t < 2 ^ 31 by omega)]
    refine ⟨fun z => absurd z (nI_ge (show t < 10 by omega) (by decide)), fun _ => ⟨vp_in_nI (show 10 * p + t < 1200 by omega) (by decide), vp_in_nI (show t < 10 by omega) (by decide), fun x22 e22 => ?_⟩⟩
    subst e22
    rw [nI_1]
    refine ih (by omega) (fun G' a b c => hP G' (fun j j1 => (a j j1).trans (va_up_ne _ _ j1)) (fun j hj => (b j (by omega)).trans (if_neg (by omega))) (fun j j1 j2 => ?_))
    by_cases w : j = t
    · subst w
      exact (b _ (by omega)).trans (if_pos rfl)
    · exact c j (by omega) j2
theorem m_lk12 {h : Nat} (hp : p < 120) (h3 : J 3 = nI h) (hh : h ≤ 16) : ∀ (d : Nat) {t : Nat} {G : SF}, t + d = h → (∀ G', (∀ j, j ≠ 14 → j ≠ 15 → G' j = G j) → (∀ j, j < t → G' 14 j = G 14 j) → (∀ j, t ≤ j → j < h → G' 14 j = G 11 (16 * p + j)) → (∀ j, j < 10 → G' 15 j = G 12 (10 * p + j)) → lkB Post (nI m) (nI p) J G') → wp_MM_look_12 Post (d + 1) (nI m) (nI p) (nI t) J G := by
  intro d
  induction d with
  | zero =>
    intro t G ht hP
    unfold wp_MM_look_12
    rw [h3]
    refine ⟨fun _ => ⟨11, m_lk45 hp 10 (t := 0) rfl (fun G' a b c => hP G' (fun j _ j2 => a j j2) (fun j _ => by rw [a 14 (by decide)]) (fun j j1 j2 => by omega) (fun j hj => c j (by omega) hj))⟩, fun z => absurd (nI_le (by omega) (by omega)) z⟩
  | succ d ih =>
    intro t G ht hP
    unfold wp_MM_look_12
    rw [h3, i16, cl (show t < 2 ^ 31 by omega), cl (show 16 * p + t < 2 ^ 31 by omega)]
    refine ⟨fun z => absurd z (nI_ge (by omega) (by omega)), fun _ => ⟨vp_in_nI (show 16 * p + t < 1920 by omega) (by decide), vp_in_nI (show t < 32 by omega) (by decide), fun x25 e25 => ?_⟩⟩
    subst e25
    rw [nI_1]
    refine ih (by omega) (fun G' a b c d => hP G' (fun j j1 j2 => (a j j1 j2).trans (va_up_ne _ _ j1)) (fun j hj => (b j (by omega)).trans (if_neg (by omega))) (fun j j1 j2 => ?_) d)
    by_cases w : j = t
    · subst w
      exact (b _ (by omega)).trans (if_pos rfl)
    · exact c j (by omega) j2
theorem m_158 {K : aj_J} {k : Nat → Bool} {y : aj_S} {G : SF} {o : Nat} (hw : wfP P) (hm : mT P G) (hmm : m < 8) (hth : P.1 m 0 = 1) (ho : o ≤ 25) (hK : mJ K k G) (hO : mO 15 (some y) J G) (h0 : ∀ J' G', aj_arrs (P.1 m 6) y (if o = 14 ∨ o = 24 then [] else [nI (p + 1)]) (K, k) = none → kM J G J' G' → J' 2 = 1 → Post J' G') (h1 : ∀ K' k' J' G', aj_arrs (P.1 m 6) y (if o = 14 ∨ o = 24 then [] else [nI (p + 1)]) (K, k) = some (K', k') → kM J G J' G' → mJ K' k' G' → J' 2 = 0 → Post J' G') : wp_MM_look_158 Post (nI m) (nI p) (nI o) J G := by
  unfold wp_MM_look_158
  have c14 : nI o = 14 ↔ o = 14 := nI_eq (by omega) (by decide)
  have c24 : nI o = 24 ↔ o = 24 := nI_eq (by omega) (by decide)
  rw [c14, c24, nI_1]
  by_cases q : o = 14 ∨ o = 24
  · rw [if_pos q] at h1
    have hP := h1 K k J G rfl kM_rf hK hO.1
    exact ⟨fun _ => hP, fun z => ⟨fun _ => hP, fun z2 => absurd q (fun w => w.elim z z2)⟩⟩
  · rw [if_neg q, arrs_1] at h0 h1
    refine ⟨fun z => absurd (Or.inl z) q, fun _ => ⟨fun z => absurd (Or.inr z) q, fun _ => ⟨fun z => absurd hO.1 z, fun _ => ⟨_, m_come hw hm hmm hth hK hO hO.2.2.1 h0 ?_, fun _ _ q => q⟩⟩⟩⟩
    intro K' k' J' G' e a b c
    exact h1 K' k' J' G' e a b c.1
theorem m_158n {G : SF} {o : Int32} (h2 : J 2 = 1) (h : Post J G) : wp_MM_look_158 Post (nI m) (nI p) o J G := by
  unfold wp_MM_look_158
  refine ⟨fun _ => h, fun _ => ⟨fun _ => h, fun _ => ⟨fun _ => h, fun z => ?_⟩⟩⟩
  rw [h2] at z
  exact absurd z (by decide)
theorem m_look {K : aj_J} {k : Nat → Bool} {x : aj_S} {G : SF} (hw : wfP P) (hm : mT P G) (hmm : m < 8) (hth : P.1 m 0 = 1) (hp : p < P.1 m 6) (hK : mJ K k G) (hx : K p = some x) (j2 : J 2 = 0) (h0 : ∀ J' G', ((aj_ef P m (P.2.1 m p) (P.2.2 m p) x).bind fun y => aj_arrs (P.1 m 6) y (aj_next (P.2.1 m p) p (P.2.2 m p)) (K, k)) = none → kM J G J' G' → J' 2 = 1 → Post J' G') (h1 : ∀ K' k' J' G', ((aj_ef P m (P.2.1 m p) (P.2.2 m p) x).bind fun y => aj_arrs (P.1 m 6) y (aj_next (P.2.1 m p) p (P.2.2 m p)) (K, k)) = some (K', k') → kM J G J' G' → mJ K' k' G' → J' 2 = 0 → Post J' G') : wp_MM_look (nI m) (nI p) J G Post := by
  have hs := s120 hw hmm
  have hp2 : p < 120 := by omega
  have ho : P.2.1 m p ≤ 25 := (hw m hmm).2.2.2.2.2.2.2.2 p hp2
  have hl := (hw m hmm).2.2.2.2.2.2.1
  obtain ⟨x1, x2, x3, x4, x5⟩ := (hK p hp2).2.1 x hx
  unfold wp_MM_look
  rw [cl (show p < 2 ^ 31 by omega), x3]
  refine ⟨vp_in_nI hp2 (by decide), _, m_lk12 (h := x.1) hp2 rfl (by omega) x.1 (t := 0) (by omega) (fun G1 a b c d => ?_)⟩
  have k1 : kM J G (va_up J 3 (nI x.1)) G1 := ⟨fun i _ i2 => va_up_ne _ _ i2, fun j hj => a j (by omega) (by omega)⟩
  have hm1 : mT P G1 := mT_kM hm k1
  have hK1 : mJ K k G1 := by
    intro q hq
    unfold mX
    rw [a 10 (by decide) (by decide), a 11 (by decide) (by decide), a 12 (by decide) (by decide), a 13 (by decide) (by decide)]
    exact hK q hq
  have hO1 : mO 15 (some x) (va_up J 3 (nI x.1)) G1 := ⟨j2, rfl, x2, x1, fun j hj => (c j (by omega) hj).trans (x4 j hj), fun j hj => (d j hj).trans (x5 j hj)⟩
  unfold lkB
  rw [i120, cl (show 120 * m + p < 2 ^ 31 by omega), m_ord hm1 hmm hp2, m_num hm1 hmm hp2]
  generalize P.2.1 m p = o at *
  generalize P.2.2 m p = v at *
  have hvi := vp_in_nI (show 120 * m + p < 960 by omega) (show 960 < 2 ^ 31 by decide)
  refine ⟨hvi, fun x5' e5 => ⟨hvi, fun x7 e7 => ?_⟩⟩
  subst e5
  have e7 := e7.symm
  subst e7
  refine ⟨_, m_effect hw hm1 hmm ho hO1 ?_, fun _ _ q => q⟩
  intro J2 G2 ke e
  have k2 : kM J G J2 G2 := kM_tr k1 (kM_E ke)
  have hm2 : mT P G2 := mT_kM hm k2
  cases ed : aj_do P m o v x with
  | none =>
    rw [ed] at e
    obtain ⟨g2, -⟩ := e
    rw [g2]
    refine z1 (h0 _ _ ?_ (kM_tr k2 (kM_E kE_2)) rfl)
    unfold aj_ef
    rw [ed]; rfl
  | some y =>
    rw [ed] at e
    have e' := e
    obtain ⟨g2, g3, gle, gwt, g14, g15⟩ := e
    rw [g2, g3, cl (show m < 2 ^ 31 by omega), (hm2 m hmm).2.2.2.2.2.1]
    refine z0 ⟨vp_in_nI hmm (by decide), fun z => ?_, fun z => ?_⟩
    · have hyl : y.1 ≤ P.1 m 5 := (nI_leI (by omega) (by omega)).mp z
      have ef : aj_ef P m o v x = some y := by
        unfold aj_ef
        rw [ed]
        show aj_lim _ y = _
        unfold aj_lim
        rw [if_pos hyl]
      simp only [ef, Option.bind_some] at h0 h1
      have hO2 : mO 15 (some y) J2 G2 := ⟨g2, g3, by omega, gwt, g14, g15⟩
      have hK2 : mJ K k G2 := by
        intro q hq
        unfold mX
        rw [ke.2 10 (by decide) (by decide), ke.2 11 (by decide) (by decide), ke.2 12 (by decide) (by decide), ke.2 13 (by decide) (by decide)]
        exact hK1 q hq
      have c19 : nI o = 19 ↔ o = 19 := nI_eq (by omega) (by decide)
      have cl14 : nI o < 14 ↔ o < 14 := nI_ltI (by omega) (by decide)
      have cl17 : nI o ≤ 17 ↔ o ≤ 17 := nI_leI (by omega) (by decide)
      have hj : aj_jmp o = true → wp_MM_look_151 Post (nI m) (nI p) (nI o) v J2 G2 := by
        intro hj
        unfold aj_next at h0 h1
        simp only [if_pos hj, List.cons_append, List.nil_append, aj_arrs] at h0 h1
        refine ⟨_, m_come hw hm2 hmm hth hK2 hO2 hO2.2.2.1 ?_ ?_, fun _ _ q => q⟩
        · intro J3 G3 en k3 j3
          refine m_158n j3 (h0 J3 G3 ?_ (kM_tr k2 k3) j3)
          rw [en]; rfl
        · intro K3 k3' J3 G3 es k3 b3 c3
          simp only [es, Option.bind_some] at h0 h1
          exact m_158 hw (mT_kM hm2 k3) hmm hth ho b3 c3 (fun J' G' a1 a2 a3 => h0 J' G' a1 (kM_tr k2 (kM_tr k3 a2)) a3) (fun K' k' J' G' a1 a2 a3 a4 => h1 K' k' J' G' a1 (kM_tr k2 (kM_tr k3 a2)) a3 a4)
      have hn : ¬ aj_jmp o = true → wp_MM_look_158 Post (nI m) (nI p) (nI o) J2 G2 := by
        intro hj
        unfold aj_next at h0 h1
        simp only [if_neg hj, List.nil_append] at h0 h1
        exact m_158 hw hm2 hmm hth ho hK2 hO2 (fun J' G' a1 a2 a3 => h0 J' G' a1 (kM_tr k2 a2) a3) (fun K' k' J' G' a1 a2 a3 a4 => h1 K' k' J' G' a1 (kM_tr k2 a2) a3 a4)
      have h145 : ¬ (14 ≤ o ∧ o ≤ 17) → wp_MM_look_145 Post (nI m) (nI p) (nI o) v J2 G2 := by
        intro q
        refine ⟨fun w => hn (fun w2 => ?_), fun w => hj (jmp_iff.mpr (Or.inr (c19.mp w)))⟩
        rcases jmp_iff.mp w2 with w3 | w3
        · exact q w3
        · exact w (c19.mpr w3)
      refine ⟨fun w => h145 (by have := cl14.mp w; omega), fun w => ⟨fun w2 => hj (jmp_iff.mpr (Or.inl ⟨?_, cl17.mp w2⟩)), fun w2 => h145 (fun q => w2 (cl17.mpr q.2))⟩⟩
      exact Nat.le_of_not_lt (fun q => w (cl14.mpr q))
    · have hyl : ¬ y.1 ≤ P.1 m 5 := fun w => z ((nI_leI (by omega) (by omega)).mpr w)
      refine h0 _ _ ?_ (kM_tr k2 (kM_E kE_2)) rfl
      unfold aj_ef
      rw [ed]
      have : (some y).bind (aj_lim (P.1 m 5)) = none := by
        show aj_lim _ y = _
        unfold aj_lim
        rw [if_neg hyl]
      rw [this]; rfl
end ML
/-- the reference's answer -/
def mK (K : aj_J) (G : SF) : Prop := ∀ p, p < 120 → (K p = none → G 10 p = -1) ∧ ∀ x, K p = some x → mX x G p
def jM (P : aj_P) (m : Nat) (r : Int32) (G : SF) : Prop := (r = 1 ∧ ∃ K, aj_least P m K ∧ mK K G) ∨ (r = 0 ∧ ∀ S, ¬ aj_sol P m S)
section MJ
variable {P : aj_P} {m : Nat} {J0 : SI} {G0 : SF} {Post : Int32 → SI → SF → Prop}
/-- what holds between the reference's looks -/
def mI (P : aj_P) (m : Nat) (J0 : SI) (G0 : SF) (K : aj_J) (k : Nat → Bool) (J : SI) (G : SF) : Prop := kM J0 G0 J G ∧ J 2 = 0 ∧ mJ K k G ∧ aj_I P m K k ∧ ∀ S, aj_sol P m S → aj_Le K S
theorem m_pass {d : Nat} {K110 : Int32 → Int32 → SI → SF → Prop} (hw : wfP P) (hm : mT P G0) (hmm : m < 8) (hth : P.1 m 0 = 1) (hA : ∀ K k J G, mI P m J0 G0 K k J G → (∀ p, p < P.1 m 6 → k p = false) → K110 (nI m) 0 J G) (hB : ∀ K k J G, mI P m J0 G0 K k J G → aj_mu (P.1 m 6) K k + 1 ≤ d → K110 (nI m) 1 J G) (hF : ∀ J G, kM J0 G0 J G → J 2 = 1 → (∀ S, ¬ aj_sol P m S) → K110 (nI m) 1 J G) : ∀ (e : Nat) {t : Nat} {x2 : Int32} {K : aj_J} {k : Nat → Bool} {J : SI} {G : SF}, t + e = P.1 m 6 → mI P m J0 G0 K k J G → (x2 = 0 ∧ (∀ p, p < t → k p = false) ∧ aj_mu (P.1 m 6) K k ≤ d) ∨ (x2 = 1 ∧ aj_mu (P.1 m 6) K k + 1 ≤ d) → wp_MM_judge_125 K110 Post (e + 1) (nI m) x2 (nI t) J G := by
  have hs := s120 hw hmm
  have hl := (hw m hmm).2.2.2.2.2.1
  have hv8 := vp_in_nI hmm (show 8 < 2 ^ 31 by decide)
  intro e
  induction e with
  | zero =>
    intro t x2 K k J G ht hI hx
    have hm1 := mT_kM hm hI.1
    unfold wp_MM_judge_125 wp_MM_judge_172
    rw [cl (show m < 2 ^ 31 by omega), m_size hm1 hmm hth]
    refine ⟨hv8, fun _ => ?_, fun z => absurd (nI_le (by omega) (by omega)) z⟩
    rcases hx with ⟨h1, h2, h3⟩ | ⟨h1, h2⟩
    · rw [h1]; exact hA K k J G hI (fun p hp => h2 p (by omega))
    · rw [h1]; exact hB K k J G hI h2
  | succ e ih =>
    intro t x2 K k J G ht hI hx
    have hI0 := hI
    obtain ⟨i1, i2, i3, i4, i5⟩ := hI
    have hm1 := mT_kM hm i1
    unfold wp_MM_judge_125 wp_MM_judge_166
    rw [cl (show m < 2 ^ 31 by omega), m_size hm1 hmm hth, cl (show t < 2 ^ 31 by omega), nI_1, n_nar0]
    have hvt := vp_in_nI (show t < 120 by omega) (show 120 < 2 ^ 31 by decide)
    refine ⟨hv8, fun z => absurd z (nI_ge (by omega) (by omega)), fun _ => ⟨fun z => absurd i2 z, fun _ => ⟨hvt, fun z => ?_, fun z => ⟨hvt, ?_⟩⟩⟩⟩
    · intro x13 e13
      subst e13
      refine ih (by omega) hI0 ?_
      rcases hx with ⟨h1, h2, h3⟩ | h
      · refine Or.inl ⟨h1, fun p hp => ?_, h3⟩
        by_cases w : p = t
        · subst w
          have := (i3 p (by omega)).2.2
          rw [z] at this
          cases q : k p with
          | false => rfl
          | true => rw [q] at this; exact absurd this (by decide)
        · exact h2 p (by omega)
      · exact Or.inr h
    · have hkt : k t = true := by
        have := (i3 t (by omega)).2.2
        cases q : k t with
        | true => rfl
        | false => rw [q] at this; exact absurd this z
      obtain ⟨x, hx2⟩ := i4.2.2.1 t hkt
      have hmu : aj_mu (P.1 m 6) K k ≤ d := by
        rcases hx with ⟨-, -, h3⟩ | ⟨-, h2⟩ <;> omega
      have kg : kM J G J (va_up G 13 (upd (G 13) t 0)) := ⟨fun _ _ _ => rfl, fun j hj => va_up_ne _ _ (by omega)⟩
      have hK1 : mJ K (va_up k t false) (va_up G 13 (upd (G 13) t 0)) := by
        intro q hq
        obtain ⟨f1, f2, f3⟩ := i3 q hq
        refine ⟨f1, f2, ?_⟩
        show upd (G 13) t 0 q = if va_up k t false q = true then 1 else 0
        by_cases w : q = t
        · subst w
          rw [va_up_self]
          exact if_pos rfl
        · rw [va_up_ne _ _ w]
          exact (if_neg w).trans f3
      have el : aj_look P m t (K, k) = ((aj_ef P m (P.2.1 m t) (P.2.2 m t) x).bind fun y => aj_arrs (P.1 m 6) y (aj_next (P.2.1 m t) t (P.2.2 m t)) (K, va_up k t false)) := by
        unfold aj_look
        simp only [hx2]
      refine ⟨_, m_look hw (mT_kM hm1 kg) hmm hth (by omega) hK1 hx2 i2 ?_ ?_, fun _ _ q => q⟩
      · intro J' G' en k1 j1 x13 e13
        subst e13
        have hno : ∀ S, ¬ aj_sol P m S := by
          intro S hSo
          obtain ⟨J2, k2, e2, -⟩ := aj_look_le (k := k) hl hSo (i5 S hSo) hx2
          rw [el, en] at e2
          cases e2
        have kk := kM_tr i1 (kM_tr kg k1)
        have hfin := hF J' G' kk j1 hno
        unfold wp_MM_judge_125 wp_MM_judge_172
        refine ⟨hv8, fun _ => hfin, fun _ => ⟨fun _ => hfin, fun w => ?_⟩⟩
        rw [j1] at w
        exact absurd w (by decide)
      · intro K' k' J' G' es k1 b1 j1 x13 e13
        subst e13
        rw [← el] at es
        obtain ⟨f1, f2⟩ := aj_look_I hl i4 es
        have mu1 := aj_look_mu (show t < P.1 m 6 by omega) hkt es
        refine ih (by omega) ⟨kM_tr i1 (kM_tr kg k1), j1, b1, f1, fun S hSo => ?_⟩ (Or.inr ⟨rfl, by omega⟩)
        obtain ⟨J2, k2, e2, e3⟩ := aj_look_le (k := k) hl hSo (i5 S hSo) hx2
        rw [es] at e2
        cases e2
        exact e3
theorem m_looks (hw : wfP P) (hm : mT P G0) (hmm : m < 8) (hth : P.1 m 0 = 1) (h : ∀ r J' G', kM J0 G0 J' G' → jM P m r G' → Post r J' G') : ∀ (d : Nat) {K : aj_J} {k : Nat → Bool} {J : SI} {G : SF}, mI P m J0 G0 K k J G → aj_mu (P.1 m 6) K k ≤ d → wp_MM_judge_110 Post (d + 2) (nI m) 1 J G := by
  have fail : ∀ (d : Nat) (x2 : Int32) (J : SI) (G : SF), kM J0 G0 J G → J 2 = 1 → (∀ S, ¬ aj_sol P m S) → wp_MM_judge_110 Post (d + 1) (nI m) x2 J G := by
    intro d x2 J G k1 j1 hno
    have hp : wp_MM_judge_175 Post J G := ⟨fun _ => h 0 J G k1 (Or.inr ⟨rfl, hno⟩), fun z => by rw [j1] at z; exact absurd z (by decide)⟩
    unfold wp_MM_judge_110
    exact ⟨fun _ => hp, fun _ => ⟨fun _ => hp, fun z => by rw [j1] at z; exact absurd z (by decide)⟩⟩
  have good : ∀ (d : Nat) (K : aj_J) (k : Nat → Bool) (J : SI) (G : SF), mI P m J0 G0 K k J G → (∀ p, p < P.1 m 6 → k p = false) → wp_MM_judge_110 Post (d + 1) (nI m) 0 J G := by
    intro d K k J G hI hk
    obtain ⟨i1, i2, i3, i4, i5⟩ := hI
    unfold wp_MM_judge_110
    exact y0 ⟨fun z => absurd i2 z, fun _ => h 1 J G i1 (Or.inl ⟨rfl, K, aj_done i4 hk i5, fun p hp => ⟨(i3 p hp).1, (i3 p hp).2.1⟩⟩)⟩
  intro d
  induction d with
  | zero =>
    intro K k J G hI hmu
    unfold wp_MM_judge_110
    refine y1 ⟨fun z => absurd hI.2.1 z, fun _ => ⟨_, m_pass (d := 0) hw hm hmm hth (good 0) (fun _ _ _ _ _ w => by omega) (fail 0 1) (P.1 m 6) (t := 0) (by omega) hI (Or.inl ⟨rfl, fun p hp => absurd hp (Nat.not_lt_zero _), hmu⟩)⟩⟩
  | succ d ih =>
    intro K k J G hI hmu
    unfold wp_MM_judge_110
    refine y1 ⟨fun z => absurd hI.2.1 z, fun _ => ⟨_, m_pass (d := d + 1) hw hm hmm hth (good (d + 1)) (fun K k J G hI w => ih hI (by omega)) (fail (d + 1) 1) (P.1 m 6) (t := 0) (by omega) hI (Or.inl ⟨rfl, fun p hp => absurd hp (Nat.not_lt_zero _), hmu⟩)⟩⟩
theorem m_40 (hw : wfP P) (hm : mT P G0) (hmm : m < 8) (hth : P.1 m 0 = 1) (h : ∀ r J' G', kM J0 G0 J' G' → jM P m r G' → Post r J' G') : ∀ (d : Nat) {t : Nat} {J : SI} {G : SF}, t + d = 10 → kM J0 G0 J G → J 2 = 0 → J 3 = 0 → (∀ p, p < 120 → G 10 p = -1 ∧ G 13 p = 0) → (∀ j, j < t → G 15 j = nI ((aj_in P m).2.2 j)) → wp_MM_judge_40 Post (d + 1) (nI m) (nI t) J G := by
  have hs := s120 hw hmm
  have hl := (hw m hmm).2.2.2.2.2.1
  have hv8 := vp_in_nI hmm (show 8 < 2 ^ 31 by decide)
  obtain ⟨-, w2, w3, -⟩ := hw m hmm
  intro d
  induction d with
  | zero =>
    intro t J G ht hk j2 j3 g1 g2
    have hm1 := mT_kM hm hk
    have hO : mO 15 (some (aj_in P m)) J G := ⟨j2, j3, show (0 : Nat) ≤ 15 by decide, wt_in, fun j hj => absurd hj (Nat.not_lt_zero _), fun j hj => g2 j (by omega)⟩
    have hK : mJ (fun _ => none) (fun _ => false) G := fun p hp => ⟨fun _ => (g1 p hp).1, fun x z => (by cases z), (g1 p hp).2⟩
    unfold wp_MM_judge_40 wp_MM_judge_109
    refine ⟨fun _ => ⟨_, m_come (t := 0) hw hm1 hmm hth hK hO (show (0 : Nat) ≤ 15 by decide) ?_ ?_, fun _ _ q => q⟩, fun z => absurd (show 10 ≤ nI t by rw [show t = 10 by omega]; decide) z⟩
    · intro J' G' z k1 j1
      have hno : ∀ S, ¬ aj_sol P m S := by
        intro S hS
        have hsz : 0 < P.1 m 6 := by
          obtain ⟨x, hx, -⟩ := hS.2
          exact (hS.1 0 x hx).1
        have hv : ¬ ((0 : Int32) < 0 ∨ P.1 m 6 ≤ (0 : Int32).toNatClampNeg) := vp_in_nI hsz (by omega)
        unfold aj_arr at z
        rw [if_neg hv] at z
        cases z
      refine ⟨fun _ => ⟨1, ?_⟩, fun w => by rw [j1] at w; exact absurd w (by decide)⟩
      have hp : wp_MM_judge_175 Post J' G' := ⟨fun _ => h 0 J' G' (kM_tr hk k1) (Or.inr ⟨rfl, hno⟩), fun z => by rw [j1] at z; exact absurd z (by decide)⟩
      unfold wp_MM_judge_110
      exact y0 hp
    · intro K' k' J' G' e k1 b1 o1
      have hv := (aj_arr_kp e).1
      have hsz : 0 < P.1 m 6 := by
        have := vin_lt hv
        omega
      have hv2 : ¬ ((0 : Int32) < 0 ∨ P.1 m 6 ≤ (0 : Int32).toNatClampNeg) := hv
      unfold aj_arr at e
      rw [if_neg hv2] at e
      have e3 : (K', k') = (va_up (fun _ => none) 0 (some (aj_in P m)), va_up (fun _ => false) 0 true) := (Option.some.inj e).symm
      cases e3
      refine ⟨fun w => absurd o1.1 w, fun _ => ⟨_, m_looks hw hm hmm hth h _ ⟨kM_tr hk k1, o1.1, b1, aj_first hsz, fun S hS => aj_first_le hS⟩ (Nat.le_refl _)⟩⟩
  | succ d ih =>
    intro t J G ht hk j2 j3 g1 g2
    have hm1 := mT_kM hm hk
    have hvt := vp_in_nI (show t < 10 by omega) (show 10 < 2 ^ 31 by decide)
    have bb := bs_bit1 (bs_nI w3) (show t < 32 by omega)
    have st : ∀ s0 : Nat, s0 = (aj_in P m).2.2 t → wp_MM_judge_84 (wp_MM_judge_40 Post (d + 1)) Post (nI m) (nI t) (nI s0) (nI t) J G := by
      intro s0 e
      refine ⟨hvt, fun x21 e21 => ?_⟩
      subst e21
      rw [nI_1, cl (show t < 2 ^ 31 by omega)]
      refine ih (by omega) ⟨hk.1, fun j hj => (va_up_ne _ _ (by omega)).trans (hk.2 j hj)⟩ j2 j3 g1 (fun j hj => ?_)
      show upd (G 15) t (nI s0) j = _
      by_cases w : j = t
      · subst w
        exact (if_pos rfl).trans (by rw [e])
      · exact (if_neg w).trans (g2 j (by omega))
    have ein : (aj_in P m).2.2 t = if P.1 m 1 ≤ t then 0 else if (P.1 m 2).testBit t = true then 2 else 1 := rfl
    unfold wp_MM_judge_40
    rw [cl (show m < 2 ^ 31 by omega), (hm1 m hmm).2.1, (hm1 m hmm).2.2.1]
    have ct : nI t < nI (P.1 m 1) ↔ t < P.1 m 1 := nI_ltI (by omega) (by omega)
    refine ⟨fun z => absurd z (nI_ge (show t < 10 by omega) (by decide)), fun _ => ⟨hv8, fun z => ⟨hv8, fun z2 => st 1 ?_, fun z2 => st 2 ?_⟩, fun z => st 0 ?_⟩⟩
    · have := ct.mp z
      rw [ein, if_neg (by omega), if_neg (fun w => z2 (bb.mpr ⟨this, w⟩))]
    · have := ct.mp z
      rw [ein, if_neg (by omega), if_pos (bb.mp z2).2]
    · rw [ein, if_pos (Nat.le_of_not_lt (fun w => z (ct.mpr w)))]
theorem m_judge (hw : wfP P) (hm : mT P G0) (hmm : m < 8) (hth : P.1 m 0 = 1) (h : ∀ r J' G', kM J0 G0 J' G' → jM P m r G' → Post r J' G') : wp_MM_judge (nI m) J0 G0 Post := by
  have key : ∀ (d : Nat) {t : Nat} {G : SF}, t + d = 120 → kM J0 G0 (va_up J0 2 0) G → (∀ p, p < t → G 10 p = -1 ∧ G 13 p = 0) → wp_MM_judge_7 Post (d + 1) (nI m) (nI t) (va_up J0 2 0) G := by
    intro d
    induction d with
    | zero =>
      intro t G ht hk g1
      unfold wp_MM_judge_7
      refine ⟨fun _ => ⟨_, m_40 hw hm hmm hth h 10 (t := 0) rfl ⟨fun i i2 i3 => ?_, hk.2⟩ rfl rfl (fun p hp => g1 p (by omega)) (fun j hj => absurd hj (Nat.not_lt_zero _))⟩, fun z => absurd (show 120 ≤ nI t by rw [show t = 120 by omega]; decide) z⟩
      rw [va_up_ne _ _ i3, va_up_ne _ _ i2]
    | succ d ih =>
      intro t G ht hk g1
      have hvt := vp_in_nI (show t < 120 by omega) (show 120 < 2 ^ 31 by decide)
      unfold wp_MM_judge_7
      rw [cl (show t < 2 ^ 31 by omega), nI_1, n_nar0]
      refine ⟨fun z => absurd z (nI_ge (show t < 120 by omega) (by decide)), fun _ => ⟨hvt, hvt, fun x24 e24 => ?_⟩⟩
      subst e24
      refine ih (by omega) ⟨hk.1, fun j hj => ?_⟩ (fun p hp => ?_)
      · rw [va_up_ne _ _ (by omega), va_up_ne _ _ (by omega)]
        exact hk.2 j hj
      · show upd (G 10) t (-1) p = -1 ∧ upd (G 13) t 0 p = 0
        by_cases q : p = t
        · subst q
          exact ⟨if_pos rfl, if_pos rfl⟩
        · obtain ⟨a, b⟩ := g1 p (by omega)
          exact ⟨(if_neg q).trans a, (if_neg q).trans b⟩
  exact ⟨_, key 120 (t := 0) rfl (kM_E kE_2) (fun p hp => absurd hp (Nat.not_lt_zero _))⟩
end MJ
