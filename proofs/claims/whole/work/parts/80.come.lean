/-! the reference's judge: places -/
def mX (x : aj_S) (G : SF) (p : Nat) : Prop := wt x ∧ x.1 ≤ 15 ∧ G 10 p = nI x.1 ∧ (∀ j, j < x.1 → G 11 (16 * p + j) = nI (x.2.1 j)) ∧ ∀ j, j < 10 → G 12 (10 * p + j) = nI (x.2.2 j)
def mJ (K : aj_J) (k : Nat → Bool) (G : SF) : Prop := ∀ p, p < 120 → (K p = none → G 10 p = -1) ∧ (∀ x, K p = some x → mX x G p) ∧ G 13 p = if k p = true then 1 else 0
def kM (J : SI) (G : SF) (J' : SI) (G' : SF) : Prop := (∀ i, i ≠ 2 → i ≠ 3 → J' i = J i) ∧ ∀ j, j < 10 ∨ 15 < j → G' j = G j
theorem kM_rf {J : SI} {G : SF} : kM J G J G := ⟨fun _ _ _ => rfl, fun _ _ => rfl⟩
theorem kM_tr {J J1 J2 : SI} {G G1 G2 : SF} (h : kM J G J1 G1) (g : kM J1 G1 J2 G2) : kM J G J2 G2 := ⟨fun i a b => (g.1 i a b).trans (h.1 i a b), fun j a => (g.2 j a).trans (h.2 j a)⟩
theorem kM_E {J J1 : SI} {G G1 : SF} (h : kE J G J1 G1) : kM J G J1 G1 := ⟨h.1, fun j a => h.2 j (by omega) (by omega)⟩
theorem mT_kM {P : aj_P} {J J1 : SI} {G G1 : SF} (h : mT P G) (g : kM J G J1 G1) : mT P G1 := mT_g h (fun j hj => g.2 j (by omega))
theorem mR_kM {A : am} {J J1 : SI} {G G1 : SF} (h : mR A J G) (g : kM J G J1 G1) : mR A J1 G1 := by
  unfold mR
  rw [g.1 5 (by decide) (by decide), g.1 9 (by decide) (by decide), g.1 10 (by decide) (by decide), g.1 11 (by decide) (by decide), g.1 6 (by decide) (by decide), g.1 7 (by decide) (by decide), g.1 8 (by decide) (by decide), g.2 17 (by omega), g.2 18 (by omega), g.2 19 (by omega), g.2 20 (by omega), g.2 21 (by omega), g.2 22 (by omega), g.2 23 (by omega), g.2 24 (by omega), g.2 25 (by omega)]
  exact h
theorem i10 (k p : Nat) : ((10 : Int32) * nI k) + nI p = nI (10 * k + p) := by
  rw [show (10 : Int32) = nI 10 from rfl, nI_mul, nI_add]
theorem i16 (k p : Nat) : ((16 : Int32) * nI k) + nI p = nI (16 * k + p) := by
  rw [show (16 : Int32) = nI 16 from rfl, nI_mul, nI_add]
theorem nar_bo {x : Int32} (h : bo x) : vp_nar .boolean x = x := by
  rcases h with rfl | rfl
  · exact n_nar0
  · exact n_nar1
theorem mJ_up {K : aj_J} {k : Nat → Bool} {G G' : SF} {p : Nat} {w : aj_S} (h : mJ K k G) (h10 : ∀ q, q < 120 → q ≠ p → G' 10 q = G 10 q) (h13 : ∀ q, q < 120 → q ≠ p → G' 13 q = G 13 q) (h11 : ∀ q, q < 120 → q ≠ p → ∀ j, j < 16 → G' 11 (16 * q + j) = G 11 (16 * q + j)) (h12 : ∀ q, q < 120 → q ≠ p → ∀ j, j < 10 → G' 12 (10 * q + j) = G 12 (10 * q + j)) (hx : mX w G' p) (hk : G' 13 p = 1) : mJ (va_up K p (some w)) (va_up k p true) G' := by
  intro q hq
  by_cases e : q = p
  · subst e
    rw [va_up_self, va_up_self]
    exact ⟨fun z => (by cases z), fun x z => by cases z; exact hx, hk⟩
  · rw [va_up_ne _ _ e, va_up_ne _ _ e]
    obtain ⟨a1, a2, a3⟩ := h q hq
    refine ⟨fun z => (h10 q hq e).trans (a1 z), fun x z => ?_, (h13 q hq e).trans a3⟩
    obtain ⟨b1, b2, b3, b4, b5⟩ := a2 x z
    exact ⟨b1, b2, (h10 q hq e).trans b3, fun j hj => (h11 q hq e j (by omega)).trans (b4 j hj), fun j hj => (h12 q hq e j hj).trans (b5 j hj)⟩
section MC
variable {P : aj_P} {m p : Nat} {J : SI} {Post : SI → SF → Prop}
theorem m_75 (hp : p < 120) : ∀ (d : Nat) {t : Nat} {G : SF}, t + d = 10 → (∀ G', (∀ j, j ≠ 12 → j ≠ 13 → G' j = G j) → (∀ q, q < 10 * p + t ∨ 10 * p + 10 ≤ q → G' 12 q = G 12 q) → (∀ j, t ≤ j → j < 10 → G' 12 (10 * p + j) = G 15 j) → G' 13 = upd (G 13) p 1 → Post J G') → wp_MM_come_75 Post (d + 1) (nI p) (nI t) J G := by
  intro d
  induction d with
  | zero =>
    intro t G ht hP
    unfold wp_MM_come_75
    refine ⟨fun _ => ⟨vp_in_nI hp (by decide), ?_⟩, fun z => absurd (show 10 ≤ nI t by rw [show t = 10 by omega]; decide) z⟩
    rw [cl (show p < 2 ^ 31 by omega), n_nar1]
    exact hP _ (fun j _ b => va_up_ne _ _ b) (fun q _ => rfl) (fun j a b => by omega) rfl
  | succ d ih =>
    intro t G ht hP
    unfold wp_MM_come_75
    rw [i10, cl (show t < 2 ^ 31 by omega), cl (show 10 * p + t < 2 ^ 31 by omega)]
    refine ⟨fun z => absurd z (nI_ge (show t < 10 by omega) (by decide)), fun _ => ⟨vp_in_nI (show t < 10 by omega) (by decide), vp_in_nI (show 10 * p + t < 1200 by omega) (by decide), fun x37 e37 => ?_⟩⟩
    subst e37
    rw [nI_1]
    refine ih (by omega) (fun G' a b c d => hP G' (fun j j1 j2 => (a j j1 j2).trans (va_up_ne _ _ j1)) (fun q hq => ?_) (fun j j1 j2 => ?_) d)
    · exact (b q (by omega)).trans (if_neg (by omega))
    · by_cases w : j = t
      · subst w
        exact (b _ (by omega)).trans (if_pos rfl)
      · exact c j (by omega) j2
theorem m_42 {h : Nat} (hp : p < 120) (h3 : J 3 = nI h) (hh : h ≤ 16) : ∀ (d : Nat) {t : Nat} {G : SF}, t + d = h → (∀ G', (∀ j, j ≠ 11 → j ≠ 12 → j ≠ 13 → G' j = G j) → (∀ q, q < 16 * p + t ∨ 16 * p + h ≤ q → G' 11 q = G 11 q) → (∀ j, t ≤ j → j < h → G' 11 (16 * p + j) = G 14 j) → (∀ q, q < 10 * p ∨ 10 * p + 10 ≤ q → G' 12 q = G 12 q) → (∀ j, j < 10 → G' 12 (10 * p + j) = G 15 j) → G' 13 = upd (G 13) p 1 → Post J G') → wp_MM_come_42 Post (d + 1) (nI p) (nI t) J G := by
  intro d
  induction d with
  | zero =>
    intro t G ht hP
    unfold wp_MM_come_42
    rw [h3]
    refine ⟨fun _ => ⟨11, m_75 hp 10 (t := 0) rfl (fun G' a b c d => hP G' (fun j _ j2 j3 => a j j2 j3) (fun q _ => by rw [a 11 (by decide) (by decide)]) (fun j j1 j2 => by omega) (fun q hq => b q (by omega)) (fun j hj => c j (by omega) hj) d)⟩, fun z => absurd (nI_le (by omega) (by omega)) z⟩
  | succ d ih =>
    intro t G ht hP
    unfold wp_MM_come_42
    rw [h3, i16, cl (show t < 2 ^ 31 by omega), cl (show 16 * p + t < 2 ^ 31 by omega)]
    refine ⟨fun z => absurd z (nI_ge (by omega) (by omega)), fun _ => ⟨vp_in_nI (show t < 32 by omega) (by decide), vp_in_nI (show 16 * p + t < 1920 by omega) (by decide), fun x40 e40 => ?_⟩⟩
    subst e40
    rw [nI_1]
    refine ih (by omega) (fun G' a b c d e f => hP G' (fun j j1 j2 j3 => (a j j1 j2 j3).trans (va_up_ne _ _ j1)) (fun q hq => ?_) (fun j j1 j2 => ?_) d e f)
    · exact (b q (by omega)).trans (if_neg (by omega))
    · by_cases w : j = t
      · subst w
        exact (b _ (by omega)).trans (if_pos rfl)
      · exact c j (by omega) j2
theorem m_195 (hp : p < 120) : ∀ (d : Nat) {t : Nat} {G : SF}, t + d = 10 → bo (G 13 p) → (∀ G', (∀ j, j ≠ 12 → j ≠ 13 → G' j = G j) → (∀ q, q < 10 * p + t ∨ 10 * p + 10 ≤ q → G' 12 q = G 12 q) → (∀ j, t ≤ j → j < 10 → G' 12 (10 * p + j) = if G 12 (10 * p + j) = 0 ∨ G 12 (10 * p + j) = G 15 j then G 12 (10 * p + j) else 0) → (∀ q, q ≠ p → G' 13 q = G 13 q) → (G' 13 p = 1 ∧ (G 13 p = 1 ∨ ∃ j, t ≤ j ∧ j < 10 ∧ ¬ (G 12 (10 * p + j) = 0 ∨ G 12 (10 * p + j) = G 15 j)) ∨ G' 13 p = 0 ∧ G 13 p = 0 ∧ ∀ j, t ≤ j → j < 10 → G 12 (10 * p + j) = 0 ∨ G 12 (10 * p + j) = G 15 j) → Post J G') → wp_MM_come_195 Post (d + 1) (nI p) (nI t) J G := by
  intro d
  induction d with
  | zero =>
    intro t G ht hb hP
    unfold wp_MM_come_195
    refine ⟨fun _ => hP G (fun _ _ _ => rfl) (fun _ _ => rfl) (fun j a b => by omega) (fun _ _ => rfl) ?_, fun z => absurd (show 10 ≤ nI t by rw [show t = 10 by omega]; decide) z⟩
    rcases hb with h | h
    · exact Or.inr ⟨h, h, fun j a b => by omega⟩
    · exact Or.inl ⟨h, Or.inl h⟩
  | succ d ih =>
    intro t G ht hb hP
    have hvp := vp_in_nI hp (show 120 < 2 ^ 31 by decide)
    have hvi := vp_in_nI (show 10 * p + t < 1200 by omega) (show 1200 < 2 ^ 31 by decide)
    have ci : (nI (10 * p + t)).toNatClampNeg = 10 * p + t := cl (by omega)
    have cp : (nI p).toNatClampNeg = p := cl (by omega)
    have fin : ∀ (new fr : Int32), bo fr → (new = if G 12 (10 * p + t) = 0 ∨ G 12 (10 * p + t) = G 15 t then G 12 (10 * p + t) else 0) → (fr = 1 ∧ (G 13 p = 1 ∨ ¬ (G 12 (10 * p + t) = 0 ∨ G 12 (10 * p + t) = G 15 t)) ∨ fr = 0 ∧ G 13 p = 0 ∧ (G 12 (10 * p + t) = 0 ∨ G 12 (10 * p + t) = G 15 t)) → wp_MM_come_297 (wp_MM_come_195 Post (d + 1)) Post (nI p) (nI t) fr (nI p) J (va_up G 12 (upd (G 12) (10 * p + t) new)) := by
      intro new fr hf hn hc
      refine ⟨hvp, fun x18 e18 => ?_⟩
      subst e18
      rw [nI_1, cp, nar_bo hf]
      have ep : (va_up (va_up G 12 (upd (G 12) (10 * p + t) new)) 13 (upd ((va_up G 12 (upd (G 12) (10 * p + t) new)) 13) p fr)) 13 p = fr := if_pos rfl
      refine ih (by omega) (by rw [ep]; exact hf) (fun G' a b c d e => hP G' (fun j j1 j2 => (a j j1 j2).trans ?_) (fun q hq => ?_) (fun j j1 j2 => ?_) (fun q hq => ?_) ?_)
      · rw [va_up_ne _ _ j2, va_up_ne _ _ j1]
      · exact (b q (by omega)).trans (if_neg (by omega))
      · by_cases w : j = t
        · subst w
          exact ((b _ (by omega)).trans (if_pos rfl)).trans hn
        · have e12 : (va_up (va_up G 12 (upd (G 12) (10 * p + t) new)) 13 (upd ((va_up G 12 (upd (G 12) (10 * p + t) new)) 13) p fr)) 12 (10 * p + j) = G 12 (10 * p + j) := if_neg (by omega)
          have := c j (by omega) j2
          rw [e12] at this
          exact this
      · exact (d q hq).trans (if_neg hq)
      · have e12 : ∀ j, t + 1 ≤ j → j < 10 → (va_up (va_up G 12 (upd (G 12) (10 * p + t) new)) 13 (upd ((va_up G 12 (upd (G 12) (10 * p + t) new)) 13) p fr)) 12 (10 * p + j) = G 12 (10 * p + j) := fun j _ _ => if_neg (by omega)
        rw [ep] at e
        rcases e with ⟨e1, e2⟩ | ⟨e1, e2, e3⟩
        · refine Or.inl ⟨e1, ?_⟩
          rcases e2 with e2 | ⟨j, j1, j2, j3⟩
          · rcases hc with ⟨h1, h2⟩ | ⟨h1, h2, h3⟩
            · rcases h2 with h2 | h2
              · exact Or.inl h2
              · exact Or.inr ⟨t, Nat.le_refl _, by omega, h2⟩
            · rw [h1] at e2
              exact absurd e2 (by decide)
          · rw [e12 j j1 j2] at j3
            exact Or.inr ⟨j, by omega, j2, j3⟩
        · rcases hc with ⟨h1, h2⟩ | ⟨h1, h2, h3⟩
          · rw [h1] at e2
            exact absurd e2 (by decide)
          · refine Or.inr ⟨e1, h2, fun j j1 j2 => ?_⟩
            by_cases w : j = t
            · subst w; exact h3
            · have := e3 j (by omega) j2
              rw [e12 j (by omega) j2] at this
              exact this
    have c272 : ∀ (x4 new : Int32), (x4 = 0 ∧ (G 12 (10 * p + t) = 0 ∨ G 12 (10 * p + t) = G 15 t) ∧ new = G 12 (10 * p + t)) ∨ (x4 = 1 ∧ ¬ (G 12 (10 * p + t) = 0 ∨ G 12 (10 * p + t) = G 15 t) ∧ new = 0) → wp_MM_come_272 (wp_MM_come_195 Post (d + 1)) Post (nI p) (nI t) x4 new (nI (10 * p + t)) J G := by
      intro x4 new hx
      unfold wp_MM_come_272 wp_MM_come_292
      rw [ci, cp]
      have hn : new = if G 12 (10 * p + t) = 0 ∨ G 12 (10 * p + t) = G 15 t then G 12 (10 * p + t) else 0 := by
        rcases hx with ⟨-, h1, h2⟩ | ⟨-, h1, h2⟩
        · rw [if_pos h1]; exact h2
        · rw [if_neg h1]; exact h2
      refine ⟨hvi, hvp, fun z => fin new 1 bo_1 hn (Or.inl ⟨rfl, Or.inl (bo_ne hb z)⟩), fun z => ⟨fun y => ?_, fun y => ?_⟩⟩
      · rcases hx with ⟨h0, h1, h2⟩ | ⟨h0, h1, h2⟩
        · exact fin new 0 bo_0 hn (Or.inr ⟨rfl, z, h1⟩)
        · rw [h0] at y; exact absurd y (by decide)
      · rcases hx with ⟨h0, h1, h2⟩ | ⟨h0, h1, h2⟩
        · exact absurd h0 y
        · exact fin new 1 bo_1 hn (Or.inl ⟨rfl, Or.inr h1⟩)
    have c239 : (G 12 (10 * p + t) = 0 ∨ G 12 (10 * p + t) = G 15 t) → wp_MM_come_239 (wp_MM_come_195 Post (d + 1)) Post (nI p) (nI t) J G := by
      intro h
      unfold wp_MM_come_239 wp_MM_come_240
      rw [i10, ci]
      exact y0 ⟨hvi, c272 0 _ (Or.inl ⟨rfl, h, rfl⟩)⟩
    have c240 : ¬ (G 12 (10 * p + t) = 0 ∨ G 12 (10 * p + t) = G 15 t) → wp_MM_come_240 (wp_MM_come_195 Post (d + 1)) Post (nI p) (nI t) 1 J G := by
      intro h
      unfold wp_MM_come_240
      rw [i10, ci]
      exact y1 (c272 1 0 (Or.inr ⟨rfl, h, rfl⟩))
    unfold wp_MM_come_195
    rw [i10, ci, cl (show t < 2 ^ 31 by omega)]
    exact ⟨fun z => absurd z (nI_ge (show t < 10 by omega) (by decide)), fun _ => ⟨hvi, fun z => c239 (Or.inl z), fun z => ⟨hvi, vp_in_nI (show t < 10 by omega) (by decide), fun y => c239 (Or.inr y), fun y => c240 (fun w => w.elim z y)⟩⟩⟩
theorem m_143 {h : Nat} {G : SF} (hp : p < 120) (h2 : J 2 = 0) (h3 : J 3 = nI h) (hh : h ≤ 16) (h0 : (∀ j, j < h → G 11 (16 * p + j) = G 14 j) → wp_MM_come_193 Post (nI p) J G) (h1 : ¬ (∀ j, j < h → G 11 (16 * p + j) = G 14 j) → wp_MM_come_193 Post (nI p) (va_up J 2 1) G) : ∀ (d : Nat) {t : Nat}, t + d = h → (∀ j, j < t → G 11 (16 * p + j) = G 14 j) → wp_MM_come_143 Post (d + 1) (nI p) (nI t) J G := by
  intro d
  induction d with
  | zero =>
    intro t ht he
    unfold wp_MM_come_143
    rw [h3]
    exact ⟨fun _ => h0 (fun j hj => he j (by omega)), fun z => absurd (nI_le (by omega) (by omega)) z⟩
  | succ d ih =>
    intro t ht he
    unfold wp_MM_come_143 wp_MM_come_184
    rw [h3, i16, cl (show t < 2 ^ 31 by omega), cl (show 16 * p + t < 2 ^ 31 by omega), nI_1]
    refine ⟨fun z => absurd z (nI_ge (by omega) (by omega)), fun _ => ⟨fun z => absurd h2 z, fun _ => ⟨vp_in_nI (show 16 * p + t < 1920 by omega) (by decide), vp_in_nI (show t < 32 by omega) (by decide), fun y => ⟨bo_0, fun x28 e28 => ?_⟩, fun y => ⟨bo_1, fun x28 e28 => ?_⟩⟩⟩⟩
    · subst e28
      rw [va_same J 2 h2]
      refine ih (by omega) (fun j hj => ?_)
      by_cases w : j = t
      · rw [w]; exact y
      · exact he j (by omega)
    · subst e28
      have hn := h1 (fun w => y (w t (by omega)))
      unfold wp_MM_come_143
      exact ⟨fun _ => hn, fun _ => ⟨fun _ => hn, fun z => absurd z (show ¬ (1 : Int32) = 0 by decide)⟩⟩
theorem m_come {K : aj_J} {k : Nat → Bool} {y : aj_S} {t : Int32} {G : SF} {b : Nat} (hw : wfP P) (hm : mT P G) (hmm : m < 8) (hth : P.1 m 0 = 1) (hK : mJ K k G) (hO : mO b (some y) J G) (y15 : y.1 ≤ 15) (h0 : ∀ J' G', aj_arr (P.1 m 6) t y (K, k) = none → kM J G J' G' → J' 2 = 1 → Post J' G') (h1 : ∀ K' k' J' G', aj_arr (P.1 m 6) t y (K, k) = some (K', k') → kM J G J' G' → mJ K' k' G' → mO 15 (some y) J' G' → Post J' G') : wp_MM_come (nI m) t J G Post := by
  have hs := s120 hw hmm
  obtain ⟨o2, o3, -, oy, o14, o15⟩ := hO
  unfold wp_MM_come wp_MM_come_14
  rw [cl (show m < 2 ^ 31 by omega), m_size hm hmm hth]
  have bad : ¬ vp_in t (P.1 m 6) → Post (va_up J 2 1) G := by
    intro hv
    refine h0 _ _ ?_ (kM_E kE_2) rfl
    unfold aj_arr
    rw [if_pos (Classical.not_not.mp hv)]
  refine ⟨fun z => bad (fun w => ((vin_b (by omega)).mp w).1 z), fun z => ⟨vp_in_nI hmm (by decide), fun z2 => ?_, fun z2 => bad (fun w => z2 ((vin_b (by omega)).mp w).2)⟩⟩
  have hv : vp_in t (P.1 m 6) := (vin_b (by omega)).mpr ⟨z, z2⟩
  obtain ⟨p, hp, rfl⟩ := vp_in_of hv (by omega)
  have hp2 : p < 120 := by omega
  have hvp := vp_in_nI hp2 (show 120 < 2 ^ 31 by decide)
  have hv3 : ¬ (nI p < 0 ∨ P.1 m 6 ≤ p) := in_c hv (by omega)
  unfold aj_arr at h0 h1
  simp only [if_neg hv3, cl (show p < 2 ^ 31 by omega)] at h0 h1
  rw [cl (show p < 2 ^ 31 by omega)]
  obtain ⟨k1, k2, k3⟩ := hK p hp2
  have hbo : bo (G 13 p) := by
    rw [k3]
    split
    · exact bo_1
    · exact bo_0
  have kk : ∀ (J' : SI) (G' : SF), (∀ i, i ≠ 2 → i ≠ 3 → J' i = J i) → (∀ j, j ≠ 10 → j ≠ 11 → j ≠ 12 → j ≠ 13 → G' j = G j) → kM J G J' G' := fun J' G' a c => ⟨a, fun j hj => c j (by omega) (by omega) (by omega) (by omega)⟩
  have no193 : (∀ J' G', kM J G J' G' → J' 2 = 1 → Post J' G') → wp_MM_come_193 Post (nI p) (va_up J 2 1) G := fun g => ⟨11, m_195 hp2 10 (t := 0) rfl hbo (fun G' a b c d e => g _ G' (kk _ G' (fun i i1 _ => va_up_ne _ _ i1) (fun j _ _ j3 j4 => a j j3 j4)) rfl)⟩
  have no138 : (∀ J' G', kM J G J' G' → J' 2 = 1 → Post J' G') → wp_MM_come_133 Post (nI p) J G := by
    intro g
    refine ⟨bo_1, 1, ?_⟩
    unfold wp_MM_come_143
    exact ⟨fun _ => no193 g, fun _ => ⟨fun _ => no193 g, fun z => absurd z (show ¬ (1 : Int32) = 0 by decide)⟩⟩
  refine ⟨hvp, fun z3 => ?_, fun z3 => ?_⟩
  · cases e : K p with
    | none => exact absurd (k1 e) z3
    | some z =>
      simp only [e] at h0 h1
      obtain ⟨x1, x2, x3, x4, x5⟩ := k2 z e
      rw [x3, o3]
      refine ⟨fun w => absurd o2 w, fun _ => ⟨hvp, fun z4 => ?_, fun z4 => ?_⟩⟩
      · have hz : z.1 = y.1 := (nI_eq (by omega) (by omega)).mp z4
        refine ⟨bo_0, y.1 + 1, ?_⟩
        rw [va_same J 2 o2]
        refine m_143 (h := y.1) hp2 o2 o3 (by omega) (fun w => ?_) (fun w => ?_) y.1 (t := 0) (by omega) (fun j hj => absurd hj (Nat.not_lt_zero _))
        · have hsm : aj_same z y = true := aj_same_iff.mpr ⟨hz, fun i hi => by
            have a1 := w i hi
            rw [x4 i (by omega), o14 i hi] at a1
            have b1 := x1.1 i (by omega)
            have b2 := oy.1 i hi
            exact (nI_eq (by omega) (by omega)).mp a1⟩
          simp only [if_pos hsm] at h0 h1
          have eq12 : ∀ j, j < 10 → ((G 12 (10 * p + j) = 0 ∨ G 12 (10 * p + j) = G 15 j) ↔ (z.2.2 j = 0 ∨ z.2.2 j = y.2.2 j)) := by
            intro j hj
            rw [x5 j hj, o15 j hj]
            have b1 := x1.2 j hj
            have b2 := oy.2 j hj
            rw [nI_nz (by omega), nI_eq (by omega) (by omega)]
          refine ⟨11, m_195 hp2 10 (t := 0) rfl hbo (fun G' a b c d e2 => ?_)⟩
          have hkM : kM J G J G' := kk J G' (fun _ _ _ => rfl) (fun j _ _ j3 j4 => a j j3 j4)
          have hO' : mO 15 (some y) J G' := by
            refine ⟨o2, o3, y15, oy, ?_, ?_⟩
            · rw [a 14 (by decide) (by decide)]; exact o14
            · rw [a 15 (by decide) (by decide)]; exact o15
          by_cases hcg : aj_chg z y = true
          · simp only [if_pos hcg] at h1
            have hex : ∃ j, j < 10 ∧ ¬ (z.2.2 j = 0 ∨ z.2.2 j = y.2.2 j) := by
              apply Classical.byContradiction
              intro hn
              have : aj_chg z y = false := aj_chg_no.mpr (fun j hj => Classical.byContradiction (fun w => hn ⟨j, hj, w⟩))
              rw [this] at hcg
              cases hcg
            have h13 : G' 13 p = 1 := by
              rcases e2 with ⟨e3, -⟩ | ⟨-, -, e4⟩
              · exact e3
              · obtain ⟨j, hj, hn⟩ := hex
                exact absurd ((eq12 j hj).mp (e4 j (by omega) hj)) hn
            refine h1 _ _ J G' rfl hkM (mJ_up hK (fun q _ _ => by rw [a 10 (by decide) (by decide)]) (fun q _ hq => d q hq) (fun q _ _ j _ => by rw [a 11 (by decide) (by decide)]) (fun q _ hq j hj => b _ (by omega)) ⟨⟨x1.1, fun i hi => ?_⟩, x2, ?_, ?_, fun j hj => ?_⟩ h13) hO'
            · show (if z.2.2 i = y.2.2 i then z.2.2 i else 0) ≤ 2
              split
              · exact x1.2 i hi
              · decide
            · rw [a 10 (by decide) (by decide)]; exact x3
            · rw [a 11 (by decide) (by decide)]; exact x4
            · rw [c j (by omega) hj]
              show _ = nI (if z.2.2 j = y.2.2 j then z.2.2 j else 0)
              by_cases w0 : z.2.2 j = y.2.2 j
              · rw [if_pos w0, if_pos ((eq12 j hj).mpr (Or.inr w0)), x5 j hj]
              · rw [if_neg w0]
                by_cases w1 : z.2.2 j = 0
                · rw [if_pos ((eq12 j hj).mpr (Or.inl w1)), x5 j hj, w1]
                · rw [if_neg (fun w2 => ((eq12 j hj).mp w2).elim w1 w0)]; rfl
          · simp only [if_neg hcg] at h1
            have hno : ∀ j, j < 10 → (z.2.2 j = 0 ∨ z.2.2 j = y.2.2 j) := aj_chg_no.mp (by cases q : aj_chg z y with | false => rfl | true => exact absurd q hcg)
            have g12 : ∀ q, G' 12 q = G 12 q := by
              intro q
              by_cases w1 : q < 10 * p + 0 ∨ 10 * p + 10 ≤ q
              · exact b q w1
              · have := c (q - 10 * p) (by omega) (by omega)
                rw [show 10 * p + (q - 10 * p) = q by omega] at this
                have h2 := (eq12 (q - 10 * p) (by omega)).mpr (hno (q - 10 * p) (by omega))
                rw [show 10 * p + (q - 10 * p) = q by omega] at h2
                rw [this, if_pos h2]
            have g13 : ∀ q, G' 13 q = G 13 q := by
              intro q
              by_cases w1 : q = p
              · subst w1
                rcases e2 with ⟨e3, e4⟩ | ⟨e3, e4, -⟩
                · rcases e4 with e4 | ⟨j, j1, j2, j3⟩
                  · rw [e3, e4]
                  · exact absurd ((eq12 j j2).mpr (hno j j2)) j3
                · rw [e3, e4]
              · exact d q w1
            refine h1 K k J G' rfl hkM (fun q hq => ?_) hO'
            obtain ⟨f1, f2, f3⟩ := hK q hq
            refine ⟨fun w => by rw [a 10 (by decide) (by decide)]; exact f1 w, fun x w => ?_, by rw [g13]; exact f3⟩
            obtain ⟨u1, u2, u3, u4, u5⟩ := f2 x w
            exact ⟨u1, u2, by rw [a 10 (by decide) (by decide)]; exact u3, by rw [a 11 (by decide) (by decide)]; exact u4, fun j hj => by rw [g12]; exact u5 j hj⟩
        · have hsm : ¬ aj_same z y = true := by
            intro hs2
            refine w (fun j hj => ?_)
            rw [x4 j (by omega), o14 j hj, (aj_same_iff.mp hs2).2 j hj]
          simp only [if_neg hsm] at h0
          exact no193 (fun J' G' a b => h0 J' G' trivial a b)
      · have hsm : ¬ aj_same z y = true := fun hs2 => z4 (by rw [(aj_same_iff.mp hs2).1])
        simp only [if_neg hsm] at h0
        exact no138 (fun J' G' a b => h0 J' G' trivial a b)
  · have e : K p = none := by
      cases e : K p with
      | none => rfl
      | some z =>
        obtain ⟨-, x2, x3, -⟩ := k2 z e
        rw [x3] at z3
        exact absurd z3 (nI_m1 (by omega))
    simp only [e] at h0 h1
    refine ⟨hvp, _, m_42 (h := y.1) hp2 o3 (by omega) y.1 (t := 0) (by omega) (fun G' a b c d f g => ?_)⟩
    have e10 : ∀ q, (va_up G 10 (upd (G 10) p (J 3))) 10 q = if q = p then J 3 else G 10 q := fun q => rfl
    have a10 : G' 10 = upd (G 10) p (J 3) := a 10 (by decide) (by decide) (by decide)
    refine h1 _ _ J G' rfl (kk J G' (fun _ _ _ => rfl) (fun j j1 j2 j3 j4 => (a j j2 j3 j4).trans (va_up_ne _ _ j1))) (mJ_up hK (fun q _ hq => ?_) (fun q _ hq => ?_) (fun q _ hq j hj => b _ (by omega)) (fun q _ hq j hj => d _ (by omega)) ⟨oy, y15, ?_, fun j hj => ?_, fun j hj => ?_⟩ ?_) ⟨o2, o3, y15, oy, ?_, ?_⟩
    · rw [a10]; exact if_neg hq
    · rw [g]; exact if_neg hq
    · rw [a10]; exact (if_pos rfl).trans o3
    · exact (c j (by omega) hj).trans (o14 j hj)
    · exact (f j hj).trans (o15 j hj)
    · rw [g]; exact if_pos rfl
    · rw [a 14 (by decide) (by decide) (by decide)]; exact o14
    · rw [a 15 (by decide) (by decide) (by decide)]; exact o15
end MC
