/-! the reference's machine -/
def kG (J : SI) (G : SF) (J' : SI) (G' : SF) : Prop := (∀ i, i ≠ 5 → i ≠ 9 → i ≠ 10 → i ≠ 11 → J' i = J i) ∧ ∀ j, j < 17 → G' j = G j
theorem kG_rf {J : SI} {G : SF} : kG J G J G := ⟨fun _ _ _ _ _ => rfl, fun _ _ => rfl⟩
theorem kG_tr {J J1 J2 : SI} {G G1 G2 : SF} (h : kG J G J1 G1) (g : kG J1 G1 J2 G2) : kG J G J2 G2 := ⟨fun i a b c d => (g.1 i a b c d).trans (h.1 i a b c d), fun j hj => (g.2 j hj).trans (h.2 j hj)⟩
theorem mT_kG {P : aj_P} {J J1 : SI} {G G1 : SF} (h : mT P G) (g : kG J G J1 G1) : mT P G1 := mT_g h (fun j hj => g.2 j (by omega))
theorem mB_I {A : am} {J J1 : SI} {G : SF} (h : mB A J G) (g5 : J1 5 = J 5) (g9 : J1 9 = J 9) (g10 : J1 10 = J 10) (g11 : J1 11 = J 11) : mB A J1 G := by
  obtain ⟨a0, a1, a2, a3, a4⟩ := h
  exact ⟨g5.trans a0, g9.trans a1, g10.trans a2, g11.trans a3, a4⟩
theorem p17 (x y : Int32) : x - 17 + (y + 1) = x - 16 + y := by
  rw [Int32.sub_eq_add_neg, Int32.sub_eq_add_neg, Int32.add_assoc, Int32.add_assoc, Int32.add_comm y 1, ← Int32.add_assoc (-17) 1 y]
  rfl
section MW
variable {P : aj_P} {A : am} {J : SI} {G : SF} {f : Nat} {v : Int32}
theorem mw_pop {Post : Int32 → SI → SF → Prop} (hA : mB A J G) (hf : A.1 0 = f + 1) (hh : aB A) (h0 : 0 < A.2.1 2 f) (hP : ∀ G', mB (aPop A f) J G' → kG J G J G' → Post (aTop A f) J G') : wp_MM_popValue J G Post := by
  have f50 : f < 50 := by have := hh.1; omega
  have h15 := hh.2 f (by omega)
  obtain ⟨-, -, b3, -, b5⟩ := hA.2.2.2.2.1 f (by omega)
  unfold wp_MM_popValue
  rw [hA.1, hf, nI_pred, cl (show f < 2 ^ 31 by omega), up_s, b3, nI_p1 h0, j16, cl (show 16 * f + (A.2.1 2 f - 1) < 2 ^ 31 by omega), b5 (A.2.1 2 f - 1) (by omega)]
  have hv := vp_in_nI f50 (show 50 < 2 ^ 31 by decide)
  exact ⟨hv, hv, hv, vp_in_nI (show 16 * f + (A.2.1 2 f - 1) < 800 by omega) (by decide), hP _ (mB_pop hA) ⟨fun _ _ _ _ _ => rfl, fun j hj => va_up_ne _ _ (by omega)⟩⟩
theorem mw_push {Post : SI → SF → Prop} (hA : mB A J G) (hf : A.1 0 = f + 1) (hh : aB A) (h15 : A.2.1 2 f < 15) (hP : ∀ G', mB (aPush A f v) J G' → kG J G J G' → Post J G') : wp_MM_pushValue v J G Post := by
  have f50 : f < 50 := by have := hh.1; omega
  obtain ⟨-, -, b3, -, b5⟩ := hA.2.2.2.2.1 f (by omega)
  unfold wp_MM_pushValue
  rw [hA.1, hf, nI_pred, cl (show f < 2 ^ 31 by omega), b3, j16, cl (show 16 * f + A.2.1 2 f < 2 ^ 31 by omega), nI_1]
  have hv := vp_in_nI f50 (show 50 < 2 ^ 31 by decide)
  refine ⟨hv, vp_in_nI (show 16 * f + A.2.1 2 f < 800 by omega) (by decide), hv, hv, hP _ (mB_push hA hf hh h15) ⟨fun _ _ _ _ _ => rfl, fun j hj => ?_⟩⟩
  rw [va_up_ne _ _ (by omega), va_up_ne _ _ (by omega)]
theorem mw_peek {k : Nat} {Post : Int32 → SI → SF → Prop} (hA : mB A J G) (hf : A.1 0 = f + 1) (hh : aB A) (hk : k < A.2.1 2 f) : wp_MM_peek (nI k) J G Post ↔ Post (A.2.2 0 f (A.2.1 2 f - 1 - k)) J G := by
  have f50 : f < 50 := by have := hh.1; omega
  have h15 := hh.2 f (by omega)
  obtain ⟨-, -, b3, -, b5⟩ := hA.2.2.2.2.1 f (by omega)
  obtain ⟨h, hh1⟩ : ∃ h, A.2.1 2 f = h + 1 := ⟨A.2.1 2 f - 1, by omega⟩
  unfold wp_MM_peek
  rw [hA.1, hf, nI_pred, cl (show f < 2 ^ 31 by omega), b3, hh1, ← nI_1 h, p17, j16, nI_sub _ _ (by omega), show 16 * f + h - k = 16 * f + (h + 1 - 1 - k) by omega, cl (show 16 * f + (h + 1 - 1 - k) < 2 ^ 31 by omega), b5 (h + 1 - 1 - k) (by omega)]
  exact ⟨fun q => q.2.2, fun q => ⟨vp_in_nI f50 (by decide), vp_in_nI (show 16 * f + (h + 1 - 1 - k) < 800 by omega) (by decide), q⟩⟩
theorem mw_open {m : Nat} {Post : SI → SF → Prop} (hA : mB A J G) (h50 : A.1 0 < 50) (hP : ∀ J' G', mB (aOpen A m) J' G' → kG J G J' G' → (∀ c, G' 20 c = G 20 c) → Post J' G') : wp_MM_open (nI m) J G Post := by
  have key : ∀ (d : Nat) {t : Nat} {F1 : SF}, t + d = 10 → (∀ r, r ≠ 17 → r ≠ 18 → r ≠ 19 → r ≠ 21 → F1 r = G r) → F1 17 = upd (G 17) (A.1 0) (nI m) → F1 18 = upd (G 18) (A.1 0) 0 → F1 19 = upd (G 19) (A.1 0) 0 → (∀ c, c < 10 * A.1 0 ∨ 10 * A.1 0 + t ≤ c → F1 21 c = G 21 c) → (∀ j, j < t → F1 21 (10 * A.1 0 + j) = 0) → wp_MM_open_32 Post (d + 1) (nI t) J F1 := by
    intro d
    induction d with
    | zero =>
      intro t F1 ht g0 g1 g2 g3 g4 g5
      unfold wp_MM_open_32
      rw [hA.1, nI_1]
      refine ⟨fun _ => hP _ _ (mB_open hA g0 g1 g2 g3 (fun c hc => g4 c (by omega)) (fun j hj => g5 j (by omega))) ⟨fun i hi _ _ _ => va_up_ne _ _ hi, fun j hj => g0 j (by omega) (by omega) (by omega) (by omega)⟩ (fun c => by rw [g0 20 (by decide) (by decide) (by decide) (by decide)]), fun z => absurd (show 10 ≤ nI t by rw [show t = 10 by omega]; decide) z⟩
    | succ d ih =>
      intro t F1 ht g0 g1 g2 g3 g4 g5
      unfold wp_MM_open_32
      rw [hA.1, i10, cl (show 10 * A.1 0 + t < 2 ^ 31 by omega)]
      refine ⟨fun z => absurd z (nI_ge (show t < 10 by omega) (by decide)), fun _ => ⟨vp_in_nI (show 10 * A.1 0 + t < 500 by omega) (by decide), fun x7 e7 => ?_⟩⟩
      subst e7
      rw [nI_1]
      refine ih (by omega) (fun r r1 r2 r3 r4 => (va_up_ne _ _ r4).trans (g0 r r1 r2 r3 r4)) g1 g2 g3 (fun c hc => ?_) (fun j hj => ?_)
      · exact (if_neg (by omega)).trans (g4 c (by omega))
      · by_cases w : j = t
        · subst w
          exact if_pos rfl
        · exact (if_neg (by omega)).trans (g5 j (by omega))
  have hv := vp_in_nI h50 (show 50 < 2 ^ 31 by decide)
  unfold wp_MM_open
  rw [hA.1, cl (show A.1 0 < 2 ^ 31 by omega)]
  refine ⟨hv, hv, hv, 11, key 10 (t := 0) rfl (fun r r1 r2 r3 _ => ?_) rfl rfl rfl (fun c _ => rfl) (fun j hj => absurd hj (Nat.not_lt_zero _))⟩
  rw [va_up_ne _ _ r3, va_up_ne _ _ r2, va_up_ne _ _ r1]
/-- a call under way: the parameters from t on have been taken -/
def aDn (A : am) (f m n t : Nat) : am := ((aOpen A m).1, va_up (aOpen A m).2.1 2 (va_up ((aOpen A m).2.1 2) f (A.2.1 2 f - (n - t))), va_up (aOpen A m).2.2 1 (va_up ((aOpen A m).2.2 1) (f + 1) (fun j => if t ≤ j ∧ j < n then A.2.2 0 f (A.2.1 2 f - n + j) else 0)))
theorem aDn_0 {m n : Nat} (hf : A.1 0 = f + 1) : aDn A f m n 0 = aCall A f m n := by
  obtain ⟨h1, h2, h3, h4, h5, h6⟩ := aArgs_0 (A := ((aOpen A m).1, va_up (aOpen A m).2.1 2 (va_up ((aOpen A m).2.1 2) f (A.2.1 2 f - n)), (aOpen A m).2.2)) (f := f) (g := f + 1) (h := A.2.1 2 f - n) (n := n)
  refine Prod.ext h1.symm (Prod.ext ?_ ?_)
  · exact h2.symm
  · funext i
    show va_up (aOpen A m).2.2 1 _ i = (aCall A f m n).2.2 i
    by_cases w : i = 1
    · subst w
      rw [va_up_self]
      funext g
      by_cases w2 : g = f + 1
      · subst w2
        rw [va_up_self]
        funext j
        have := h6 j
        show (if 0 ≤ j ∧ j < n then A.2.2 0 f (A.2.1 2 f - n + j) else 0) = (aCall A f m n).2.2 1 (f + 1) j
        unfold aCall
        rw [this]
        by_cases w3 : j < n
        · rw [if_pos ⟨Nat.zero_le _, w3⟩, if_pos w3]; rfl
        · rw [if_neg (fun q => w3 q.2), if_neg w3]
          show (0 : Int32) = va_up (A.2.2 1) (A.1 0) (fun _ => 0) (f + 1) j
          rw [← hf, va_up_self]
      · rw [va_up_ne _ _ w2]
        exact (h5 g w2).symm
    · rw [va_up_ne _ _ w]
      exact (h4 i w).symm
theorem aDn_s {m n t : Nat} (hf : A.1 0 = f + 1) (hn : n ≤ A.2.1 2 f) (ht : t < n) : aLoc (aPop (aDn A f m n (t + 1)) f) (f + 1) t (A.2.2 0 f (A.2.1 2 f - n + t)) = aDn A f m n t := by
  unfold aLoc aPop aDn
  refine Prod.ext rfl (Prod.ext ?_ ?_)
  · show va_up (va_up (aOpen A m).2.1 2 (va_up ((aOpen A m).2.1 2) f (A.2.1 2 f - (n - (t + 1))))) 2 (va_up ((va_up (aOpen A m).2.1 2 (va_up ((aOpen A m).2.1 2) f (A.2.1 2 f - (n - (t + 1))))) 2) f ((va_up (aOpen A m).2.1 2 (va_up ((aOpen A m).2.1 2) f (A.2.1 2 f - (n - (t + 1))))) 2 f - 1)) = va_up (aOpen A m).2.1 2 (va_up ((aOpen A m).2.1 2) f (A.2.1 2 f - (n - t)))
    rw [va_uu, va_up_self, va_uu, va_up_self, show A.2.1 2 f - (n - (t + 1)) - 1 = A.2.1 2 f - (n - t) by omega]
  · show va_up (va_up (aOpen A m).2.2 1 (va_up ((aOpen A m).2.2 1) (f + 1) (fun j => if t + 1 ≤ j ∧ j < n then A.2.2 0 f (A.2.1 2 f - n + j) else 0))) 1 (va_up ((va_up (aOpen A m).2.2 1 (va_up ((aOpen A m).2.2 1) (f + 1) (fun j => if t + 1 ≤ j ∧ j < n then A.2.2 0 f (A.2.1 2 f - n + j) else 0))) 1) (f + 1) (va_up ((va_up (aOpen A m).2.2 1 (va_up ((aOpen A m).2.2 1) (f + 1) (fun j => if t + 1 ≤ j ∧ j < n then A.2.2 0 f (A.2.1 2 f - n + j) else 0))) 1 (f + 1)) t (A.2.2 0 f (A.2.1 2 f - n + t)))) = _
    rw [va_uu, va_up_self, va_uu, va_up_self]
    have e : va_up (fun j => if t + 1 ≤ j ∧ j < n then A.2.2 0 f (A.2.1 2 f - n + j) else 0) t (A.2.2 0 f (A.2.1 2 f - n + t)) = fun j => if t ≤ j ∧ j < n then A.2.2 0 f (A.2.1 2 f - n + j) else 0 := by
      funext j
      by_cases w : j = t
      · subst w
        rw [va_up_self, if_pos ⟨Nat.le_refl _, ht⟩]
      · rw [va_up_ne _ _ w]
        by_cases w2 : t ≤ j ∧ j < n
        · rw [if_pos w2, if_pos ⟨by omega, w2.2⟩]
        · rw [if_neg w2, if_neg (fun q => w2 ⟨by omega, q.2⟩)]
    rw [e]
theorem mw_into {m n : Nat} {Post : SI → SF → Prop} (hA : mB A J G) (hf : A.1 0 = f + 1) (hh : aB A) (h50 : f + 1 < 50) (hm8 : m < 8) (g2 : G 2 m = nI n) (hn : n ≤ A.2.1 2 f) (hn4 : n ≤ 4) (hP : ∀ J' G', mB (aCall A f m n) J' G' → kG J G J' G' → Post J' G') : wp_MM_into (nI m) J G Post := by
  have h15 := hh.2 f (by omega)
  have b5 := (hA.2.2.2.2.1 f (by omega)).2.2.2.2
  have cf : (nI f).toNatClampNeg = f := cl (by omega)
  have hv := vp_in_nI (show f < 50 by omega) (show 50 < 2 ^ 31 by decide)
  refine ⟨_, mw_open hA (by omega) ?_, fun _ _ q => q⟩
  intro J1 G1 m1 k1 s1 x2 e2
  have hj5 : J1 5 = nI (f + 2) := by
    rw [m1.1]
    show nI (A.1 0 + 1) = _
    rw [hf]
  have : x2 = nI f := by
    rw [e2, hj5]
    have := nI_sub (f + 2) 2 (by omega)
    rw [show f + 2 - 2 = f by omega] at this
    exact this
  subst this
  refine ⟨vp_in_nI hm8 (by decide), fun x4 e4 => ?_⟩
  rw [cl (show m < 2 ^ 31 by omega), k1.2 2 (by decide), g2] at e4
  subst e4
  have m2 : mB (aDn A f m n n) J1 G1 := by
    have e : aDn A f m n n = aOpen A m := by
      unfold aDn
      refine Prod.ext rfl (Prod.ext ?_ ?_)
      · show va_up (aOpen A m).2.1 2 (va_up ((aOpen A m).2.1 2) f (A.2.1 2 f - (n - n))) = (aOpen A m).2.1
        have e1 : va_up ((aOpen A m).2.1 2) f (A.2.1 2 f - (n - n)) = (aOpen A m).2.1 2 := va_same _ _ (by
          show va_up (A.2.1 2) (A.1 0) 0 f = _
          rw [va_up_ne _ _ (by omega)]
          omega)
        rw [e1]
        exact va_same _ _ rfl
      · show va_up (aOpen A m).2.2 1 (va_up ((aOpen A m).2.2 1) (f + 1) _) = (aOpen A m).2.2
        have e1 : va_up ((aOpen A m).2.2 1) (f + 1) (fun j => if n ≤ j ∧ j < n then A.2.2 0 f (A.2.1 2 f - n + j) else 0) = (aOpen A m).2.2 1 := va_same _ _ (by
          show va_up (A.2.2 1) (A.1 0) (fun _ => 0) (f + 1) = _
          rw [← hf, va_up_self]
          funext j
          rw [if_neg (by omega)])
        rw [e1]
        exact va_same _ _ rfl
    rw [e]
    exact m1
  have key : ∀ (t : Nat) {G2 : SF}, t ≤ n → mB (aDn A f m n t) J1 G2 → kG J G J1 G2 → (∀ j, j < A.2.1 2 f → G2 20 (16 * f + j) = A.2.2 0 f j) → wp_MM_into_21 Post (t + 1) (nI f) (nI t - 1) J1 G2 := by
    intro t
    induction t with
    | zero =>
      intro G2 _ q1 q2 _
      unfold wp_MM_into_21
      rw [aDn_0 hf] at q1
      exact ⟨fun _ => hP J1 G2 q1 q2, fun z => absurd (by decide) z⟩
    | succ t ih =>
      intro G2 ht q1 q2 q3
      have e19 : G2 19 f = nI (A.2.1 2 f - (n - (t + 1))) := by
        have := (q1.2.2.2.2.1 f (by show f < A.1 0 + 1; omega)).2.2.1
        rw [this]
        show nI (va_up ((aOpen A m).2.1 2) f _ f) = _
        rw [va_up_self]
      unfold wp_MM_into_21
      rw [nI_pred, cf, up_s, e19, nI_p1 (by omega), i16, cl (show 16 * f + (A.2.1 2 f - (n - (t + 1)) - 1) < 2 ^ 31 by omega), q3 (A.2.1 2 f - (n - (t + 1)) - 1) (by omega), hj5, k10, cl (show 10 * (f + 1) + t < 2 ^ 31 by omega), show A.2.1 2 f - (n - (t + 1)) - 1 = A.2.1 2 f - n + t by omega]
      refine ⟨fun z => absurd z (nI_pos (by omega)), fun _ => ⟨hv, hv, hv, vp_in_nI (show 16 * f + (A.2.1 2 f - n + t) < 800 by omega) (by decide), vp_in_nI (show 10 * (f + 1) + t < 500 by omega) (by decide), fun x11 e11 => ?_⟩⟩
      subst e11
      rw [show nI t + -1 = nI t - 1 from (Int32.sub_eq_add_neg _ _).symm]
      have r1 := mB_pop (f := f) q1
      have r2 := mB_loc (f := f + 1) (k := t) (v := A.2.2 0 f (A.2.1 2 f - n + t)) r1 (by omega)
      rw [aDn_s hf hn (by omega)] at r2
      have e2 : (aDn A f m n (t + 1)).2.1 2 f - 1 = A.2.1 2 f - n + t := by
        show va_up ((aOpen A m).2.1 2) f (A.2.1 2 f - (n - (t + 1))) f - 1 = _
        rw [va_up_self]
        omega
      rw [e2] at r2
      exact ih (by omega) r2 (kG_tr q2 ⟨fun _ _ _ _ _ => rfl, fun j hj => by rw [va_up_ne _ _ (by omega), va_up_ne _ _ (by omega)]⟩) q3
  exact ⟨n + 1, key n (Nat.le_refl _) m2 k1 (fun j hj => (s1 _).trans (b5 j hj))⟩
theorem mw_make {n : Nat} {Post : Int32 → SI → SF → Prop} (hA : mB A J G) (hH : aH A) (h2 : A.1 1 < 200) (hn : A.1 2 + n ≤ 2000) (hP : ∀ J' G', mB (aMake A n) J' G' → kG J G J' G' → Post (nI (A.1 1)) J' G') : wp_MM_make (nI n) J G Post := by
  have hc := hH.2.1
  have key : ∀ (d : Nat) {t : Nat} {F1 : SF}, t + d = n → (∀ r, r ≠ 22 → r ≠ 23 → r ≠ 24 → F1 r = G r) → F1 22 = upd (G 22) (A.1 1) (nI (A.1 2)) → F1 23 = upd (G 23) (A.1 1) (nI n) → (∀ c, c < A.1 2 → F1 24 c = G 24 c) → (∀ j, j < t → F1 24 (A.1 2 + j) = 0) → wp_MM_make_25 Post (d + 1) (nI n) (nI t) J F1 := by
    intro d
    induction d with
    | zero =>
      intro t F1 ht g0 g1 g2 g3 g4
      unfold wp_MM_make_25
      rw [hA.2.1, hA.2.2.1, nI_add, nI_1, nI_pred]
      exact ⟨fun _ => hP _ _ (mB_make hA hH g0 g1 g2 g3 (fun j hj => g4 j (by omega))) ⟨fun i _ i9 i10 _ => by rw [va_up_ne _ _ i9, va_up_ne _ _ i10], fun j hj => g0 j (by omega) (by omega) (by omega)⟩, fun z => absurd (nI_le (by omega) (by omega)) z⟩
    | succ d ih =>
      intro t F1 ht g0 g1 g2 g3 g4
      unfold wp_MM_make_25
      rw [hA.2.2.1, nI_add, nI_add, cl (show A.1 2 + t < 2 ^ 31 by omega), nI_1]
      refine ⟨fun z => absurd z (nI_ge (show t < n by omega) (by omega)), fun _ => ⟨vp_in_nI (show A.1 2 + t < 2000 by omega) (by decide), fun x8 e8 => ?_⟩⟩
      subst e8
      refine ih (by omega) (fun r r1 r2 r3 => (va_up_ne _ _ r3).trans (g0 r r1 r2 r3)) g1 g2 (fun c hc => ?_) (fun j hj => ?_)
      · exact (if_neg (by omega)).trans (g3 c hc)
      · by_cases w : j = t
        · subst w
          exact if_pos rfl
        · exact (if_neg (by omega)).trans (g4 j (by omega))
  have hv := vp_in_nI (show A.1 1 < 201 by omega) (show 201 < 2 ^ 31 by decide)
  unfold wp_MM_make
  rw [hA.2.1, hA.2.2.1, cl (show A.1 1 < 2 ^ 31 by omega)]
  refine ⟨hv, hv, n + 1, key n (t := 0) (by omega) (fun r r1 r2 _ => ?_) rfl rfl (fun c _ => rfl) (fun j hj => absurd hj (Nat.not_lt_zero _))⟩
  rw [va_up_ne _ _ r2, va_up_ne _ _ r1]
end MW
