/-! a run keeps what the judge knows -/
theorem cR_mk {A : am} {I : SI} {F : SF} (h : cB A I F) (h2 : I 2 = if A.1 4 = 0 then (if A.1 0 = 0 then 1 else 0) else nI (A.1 4)) (h3 : I 3 = nI (A.1 5)) (h4 : I 4 = A.2.2 4 0 0) : cR A I F := ⟨h.1, h.2.1, h.2.2.1, h.2.2.2.1, h2, h3, h4, h.2.2.2.2⟩
theorem mR_mk {A : am} {J : SI} {G : SF} (h : mB A J G) (h6 : J 6 = nI (A.1 4)) (h7 : J 7 = nI (A.1 5)) (h8 : J 8 = A.2.2 4 0 0) : mR A J G := ⟨h.1, h.2.1, h.2.2.1, h.2.2.2.1, h6, h7, h8, h.2.2.2.2⟩
section AS
variable {P : aj_P} {A A' C : am} {f e k q : Nat} {K : aj_J} {x y z w : aj_S} {r : Int32}
theorem aS_next (hS : aS P A) (hf : A.1 0 = f + 1) (hfr : fr A A' f) (hK : aj_least P (A.2.1 0 f) K) (hz : K (A'.2.1 1 f) = some z) (hle : aj_le y z) (hY : aY (A'.1 1) y A' f) : aS P A' := by
  obtain ⟨h50, hH, g, hg, hF⟩ := hS
  obtain ⟨f1, f2, f3, f4, f5, f6, f7, f8⟩ := hfr
  refine ⟨by rw [f1]; exact h50, f5 hH, g, hg, fun i hi => ?_⟩
  rw [f1] at hi
  rw [f1, f2]
  obtain ⟨q1, q2⟩ := hF i hi
  refine ⟨q1, ?_⟩
  by_cases w : i = f
  · subst w
    rw [if_neg (by omega)]
    refine ⟨K, z, by rw [f2]; exact hK, hz, ?_, fun j hj => ?_, fun j hj => ?_⟩
    · rw [if_pos rfl, ← hle.1]; exact hY.1
    · have hj2 : j < y.1 := by rw [hY.1]; exact hj
      rw [← hle.2.1 j hj2]; exact hY.2.1 j hj2
    · rcases hle.2.2 j hj with e | e
      · rw [e]; exact aV_0
      · rw [e]; exact hY.2.2 j hj
  · obtain ⟨K2, x2, a1, a2, a3, a4, a5⟩ := q2
    obtain ⟨b1, b2, b3, b4⟩ := f3 i (by omega)
    refine ⟨K2, x2, by rw [f2]; exact a1, by rw [b1]; exact a2, ?_, fun j hj => ?_, fun j hj => ?_⟩
    · rw [b2]; exact a3
    · rw [b2] at hj; rw [b3]; exact aV_le f4 (a4 j hj)
    · rw [b4]; exact aV_le f4 (a5 j hj)
/-- what is known of the uppermost frame -/
theorem aS_top (hS : aS P A) (hf : A.1 0 = f + 1) : ∃ g K x, aG P g ∧ g (A.2.1 0 f) = true ∧ aj_least P (A.2.1 0 f) K ∧ K (A.2.1 1 f) = some x ∧ aY (A.1 1) x A f := by
  obtain ⟨h50, hH, g, hg, hF⟩ := hS
  obtain ⟨q1, K, x, a1, a2, a3, a4, a5⟩ := hF f (by omega)
  rw [if_neg (show ¬ f + 1 < A.1 0 by omega), if_pos rfl] at a3
  exact ⟨g, K, x, hg, q1, a1, a2, a3, fun j hj => a4 j (by rw [← a3]; exact hj), a5⟩
theorem aS_B (hw : wfP P) (hS : aS P A) : aB A := by
  obtain ⟨h50, hH, g, hg, hF⟩ := hS
  refine ⟨h50, fun i hi => ?_⟩
  obtain ⟨q1, K, x, a1, a2, a3, a4, a5⟩ := hF i hi
  have b := (aj_bd a1 a2).2
  have l := (hw _ (hg _ q1).1).2.2.2.2.2.2.1
  generalize (if i + 1 < A.1 0 then P.1 (A.2.1 0 (i + 1)) 3 else 0) = t at a3
  by_cases w : t = 0
  · rw [if_pos w] at a3; omega
  · rw [if_neg w] at a3; omega
theorem aS_call (hS : aS P A) (hf : A.1 0 = f + 1) (h50 : f + 1 < 50) (hK : aj_least P (A.2.1 0 f) K) (hY : aY (A.1 1) x A f) (hx : K (A.2.1 1 f) = some x) (ho : P.2.1 (A.2.1 0 f) (A.2.1 1 f) = 23) (hv : P.2.2 (A.2.1 0 f) (A.2.1 1 f) = nI k) (hk : k < 8) (hp : aj_pops (aj_args (P.1 k 2) (P.1 k 1)) x = some w) (hput : aj_put (P.1 k 3) w = some y) (hz : K q = some z) (hle : aj_le y z) : aS P (aCall (aGo A f q) f k (P.1 k 1)) := by
  obtain ⟨hn, hty, rfl⟩ := aj_args_s _ hp
  obtain ⟨-, hH, g, hg, hF⟩ := hS
  obtain ⟨y1, y2, y3⟩ := hY
  generalize hN : P.1 k 1 = n at *
  obtain ⟨c1, c2, c3, c4, c5, c6⟩ := aArgs_0 (A := ((aOpen (aGo A f q) k).1, va_up (aOpen (aGo A f q) k).2.1 2 (va_up ((aOpen (aGo A f q) k).2.1 2) f ((aGo A f q).2.1 2 f - n)), (aOpen (aGo A f q) k).2.2)) (f := f) (g := f + 1) (h := (aGo A f q).2.1 2 f - n) (n := n)
  have e0 : (aCall (aGo A f q) f k n).1 = va_up A.1 0 (A.1 0 + 1) := c1
  have eM : ∀ i, (aCall (aGo A f q) f k n).2.1 0 i = va_up (A.2.1 0) (f + 1) k i := fun i => by
    unfold aCall
    rw [c2]
    show va_up (A.2.1 0) (A.1 0) k i = _
    rw [hf]
  have eP : ∀ i, (aCall (aGo A f q) f k n).2.1 1 i = va_up (va_up (A.2.1 1) f q) (f + 1) 0 i := fun i => by
    unfold aCall
    rw [c2]
    show va_up (va_up (A.2.1 1) f q) (A.1 0) 0 i = _
    rw [hf]
  have eH : ∀ i, (aCall (aGo A f q) f k n).2.1 2 i = va_up (va_up (A.2.1 2) (f + 1) 0) f (A.2.1 2 f - n) i := fun i => by
    unfold aCall
    rw [c2]
    show va_up (va_up (A.2.1 2) (A.1 0) 0) f (A.2.1 2 f - n) i = _
    rw [hf]
  have eS : (aCall (aGo A f q) f k n).2.2 0 = A.2.2 0 := c3
  have eL : ∀ i, i ≠ f + 1 → (aCall (aGo A f q) f k n).2.2 1 i = A.2.2 1 i := fun i hi => by
    unfold aCall
    rw [c5 i hi]
    show va_up (A.2.2 1) (A.1 0) (fun _ => 0) i = _
    rw [hf, va_up_ne _ _ hi]
  have eL2 : ∀ j, (aCall (aGo A f q) f k n).2.2 1 (f + 1) j = if j < n then A.2.2 0 f (A.2.1 2 f - n + j) else 0 := fun j => by
    unfold aCall
    rw [c6 j]
    by_cases w : j < n
    · rw [if_pos w, if_pos w]; rfl
    · rw [if_neg w, if_neg w]
      show va_up (A.2.2 1) (A.1 0) (fun _ => 0) (f + 1) j = _
      rw [← hf, va_up_self]
  have e00 : (aCall (aGo A f q) f k n).1 0 = f + 2 := by rw [e0, va_up_self, hf]
  have e01 : (aCall (aGo A f q) f k n).1 1 = A.1 1 := by rw [e0]; rfl
  have e02 : (aCall (aGo A f q) f k n).1 2 = A.1 2 := by rw [e0]; rfl
  have e34 : ∀ i, (aCall (aGo A f q) f k n).2.1 3 i = A.2.1 3 i ∧ (aCall (aGo A f q) f k n).2.1 4 i = A.2.1 4 i := fun i => by
    unfold aCall
    rw [c2]
    exact ⟨rfl, rfl⟩
  have gk : g k = true := by
    obtain ⟨-, -, K2, k1, k2⟩ := hg _ (hF f (by omega)).1
    obtain ⟨x2, k3, -⟩ := aj_least_eq hK k1 hx
    have := k2 _ x2 k3 ho
    rw [hv, cl (show k < 2 ^ 31 by omega)] at this
    exact this
  refine ⟨by rw [e00]; omega, ⟨by rw [e01]; exact hH.1, by rw [e02]; exact hH.2.1, fun i hi => by rw [(e34 i).1, (e34 i).2, e02]; exact hH.2.2 i (by rw [← e01]; exact hi)⟩, g, hg, fun i hi => ?_⟩
  rw [e00] at hi
  rw [e00, eM, eM]
  rcases (show i = f + 1 ∨ i = f ∨ i < f by omega) with rfl | rfl | hlt
  · rw [va_up_self, if_neg (by omega)]
    refine ⟨gk, ?_⟩
    obtain ⟨-, -, K2, k1, -⟩ := hg k gk
    obtain ⟨z2, k3, k4⟩ := k1.1.2
    refine ⟨K2, z2, by rw [eM, va_up_self]; exact k1, by rw [eP, va_up_self]; exact k3, ?_, fun j hj => ?_, fun j hj => ?_⟩
    · rw [if_pos rfl, eH, va_up_ne _ _ (by omega), va_up_self]
      exact k4.1.symm
    · rw [eH, va_up_ne _ _ (by omega), va_up_self] at hj
      exact absurd hj (Nat.not_lt_zero _)
    · rw [e01, eL2]
      rcases k4.2.2 j hj with e | e
      · rw [e]; exact aV_0
      · rw [e]
        show aV (A.1 1) (if P.1 k 1 ≤ j then 0 else if (P.1 k 2).testBit j = true then 2 else 1) _
        rw [hN]
        by_cases w : n ≤ j
        · rw [if_pos w]; exact aV_0
        · rw [if_neg w, if_pos (show j < n by omega), ← hty j (by omega), y1]
          exact y2 _ (by omega)
  · rw [va_up_ne _ _ (by omega), if_pos (by omega), va_up_self]
    refine ⟨(hF i (by omega)).1, K, z, by rw [eM, va_up_ne _ _ (by omega)]; exact hK, by rw [eP, va_up_ne _ _ (by omega), va_up_self]; exact hz, ?_, fun j hj => ?_, fun j hj => ?_⟩
    · rw [eH, va_up_self]
      unfold aj_put at hput
      by_cases w : P.1 k 3 = 0
      · rw [if_pos w] at hput
        cases hput
        rw [if_pos w, ← hle.1]
        show x.1 - n = _
        rw [y1]
      · rw [if_neg w] at hput
        cases hput
        rw [if_neg w]
        have h1 : x.1 - n + 1 = z.1 := hle.1
        refine ⟨by rw [← h1, y1], ?_⟩
        rw [← y1, ← hle.2.1 (x.1 - n) (by show x.1 - n < x.1 - n + 1; omega)]
        exact va_up_self _ _ _
    · rw [eH, va_up_self] at hj
      rw [e01, eS]
      have key : z.2.1 j = x.2.1 j := by
        unfold aj_put at hput
        by_cases w : P.1 k 3 = 0
        · rw [if_pos w] at hput
          cases hput
          exact (hle.2.1 j (by show j < x.1 - n; omega)).symm
        · rw [if_neg w] at hput
          cases hput
          rw [← hle.2.1 j (by show j < x.1 - n + 1; omega)]
          exact va_up_ne _ _ (by omega)
      rw [key]
      exact y2 j (by omega)
    · rw [e01, eL i (by omega)]
      have key : z.2.2 j = 0 ∨ z.2.2 j = x.2.2 j := by
        have := hle.2.2 j hj
        unfold aj_put at hput
        by_cases w : P.1 k 3 = 0
        · rw [if_pos w] at hput
          cases hput
          exact this
        · rw [if_neg w] at hput
          cases hput
          exact this
      rcases key with e | e
      · rw [e]; exact aV_0
      · rw [e]; exact y3 j hj
  · rw [va_up_ne _ _ (by omega), va_up_ne _ _ (by omega), if_pos (by omega)]
    obtain ⟨q1, q2⟩ := hF i (by omega)
    rw [if_pos (by omega)] at q2
    refine ⟨q1, ?_⟩
    obtain ⟨K2, x2, a1, a2, a3, a4, a5⟩ := q2
    refine ⟨K2, x2, by rw [eM, va_up_ne _ _ (by omega)]; exact a1, by rw [eP, va_up_ne _ _ (by omega), va_up_ne _ _ (by omega)]; exact a2, ?_, fun j hj => ?_, fun j hj => ?_⟩
    · rw [eH, va_up_ne _ _ (by omega), va_up_ne _ _ (by omega)]; exact a3
    · rw [eH, va_up_ne _ _ (by omega), va_up_ne _ _ (by omega)] at hj
      rw [e01, eS]; exact a4 j hj
    · rw [e01, eL i (by omega)]; exact a5 j hj
theorem aS_ret0 (hS : aS P A) (hf : A.1 0 = e + 2) (hfr : fr A C (e + 1)) (ht : P.1 (A.2.1 0 (e + 1)) 3 = 0) : aS P (aLeave C (e + 1)) := by
  obtain ⟨h50, hH, g, hg, hF⟩ := hS
  obtain ⟨f1, f2, f3, f4, f5, f6, f7, f8⟩ := hfr
  refine ⟨by show e + 1 ≤ 50; omega, f5 hH, g, hg, fun i hi => ?_⟩
  have hi : i < e + 1 := hi
  show g (C.2.1 0 i) = true ∧ aF P (aLeave C (e + 1)) i (if i + 1 < e + 1 then P.1 (C.2.1 0 (i + 1)) 3 else 0)
  rw [f2]
  obtain ⟨q1, q2⟩ := hF i (by omega)
  rw [if_pos (by omega)] at q2
  refine ⟨q1, ?_⟩
  obtain ⟨K2, x2, a1, a2, a3, a4, a5⟩ := q2
  obtain ⟨b1, b2, b3, b4⟩ := f3 i (by omega)
  refine ⟨K2, x2, by show aj_least P (C.2.1 0 i) K2; rw [f2]; exact a1, by show K2 (C.2.1 1 i) = _; rw [b1]; exact a2, ?_, fun j hj => ?_, fun j hj => ?_⟩
  · show if (if i + 1 < e + 1 then P.1 (A.2.1 0 (i + 1)) 3 else 0) = 0 then x2.1 = C.2.1 2 i else x2.1 = C.2.1 2 i + 1 ∧ x2.2.1 (C.2.1 2 i) = (if i + 1 < e + 1 then P.1 (A.2.1 0 (i + 1)) 3 else 0)
    rw [b2]
    by_cases w : i + 1 < e + 1
    · rw [if_pos w]; exact a3
    · rw [if_neg w]
      rw [show i + 1 = e + 1 by omega, ht] at a3
      exact a3
  · have hj : j < C.2.1 2 i := hj
    show aV (C.1 1) (x2.2.1 j) (C.2.2 0 i j)
    rw [b2] at hj
    rw [b3]; exact aV_le f4 (a4 j hj)
  · show aV (C.1 1) (x2.2.2 j) (C.2.2 1 i j)
    rw [b4]; exact aV_le f4 (a5 j hj)
theorem aS_ret1 (hw : wfP P) (hS : aS P A) (hf : A.1 0 = e + 2) (hfr : fr A C (e + 1)) (ht : ¬ P.1 (A.2.1 0 (e + 1)) 3 = 0) (hr : aV (C.1 1) (P.1 (A.2.1 0 (e + 1)) 3) r) : C.2.1 2 e < 15 ∧ aS P (aPush (aLeave C (e + 1)) e r) := by
  obtain ⟨h50, hH, g, hg, hF⟩ := hS
  obtain ⟨f1, f2, f3, f4, f5, f6, f7, f8⟩ := hfr
  have he : C.2.1 2 e < 15 := by
    obtain ⟨q1, K2, x2, a1, a2, a3, a4, a5⟩ := hF e (by omega)
    rw [if_pos (show e + 1 < A.1 0 by omega), if_neg ht] at a3
    have b := (aj_bd a1 a2).2
    have l := (hw _ (hg _ q1).1).2.2.2.2.2.2.1
    rw [(f3 e (by omega)).2.1]
    omega
  refine ⟨he, by show e + 1 ≤ 50; omega, f5 hH, g, hg, fun i hi => ?_⟩
  have hi : i < e + 1 := hi
  show g (C.2.1 0 i) = true ∧ aF P (aPush (aLeave C (e + 1)) e r) i (if i + 1 < e + 1 then P.1 (C.2.1 0 (i + 1)) 3 else 0)
  rw [f2]
  obtain ⟨q1, q2⟩ := hF i (by omega)
  rw [if_pos (by omega)] at q2
  refine ⟨q1, ?_⟩
  obtain ⟨K2, x2, a1, a2, a3, a4, a5⟩ := q2
  obtain ⟨b1, b2, b3, b4⟩ := f3 i (by omega)
  refine ⟨K2, x2, by show aj_least P (C.2.1 0 i) K2; rw [f2]; exact a1, by show K2 (C.2.1 1 i) = _; rw [b1]; exact a2, ?_, fun j hj => ?_, fun j hj => ?_⟩
  · show if (if i + 1 < e + 1 then P.1 (A.2.1 0 (i + 1)) 3 else 0) = 0 then x2.1 = va_up (C.2.1 2) e (C.2.1 2 e + 1) i else x2.1 = va_up (C.2.1 2) e (C.2.1 2 e + 1) i + 1 ∧ x2.2.1 (va_up (C.2.1 2) e (C.2.1 2 e + 1) i) = (if i + 1 < e + 1 then P.1 (A.2.1 0 (i + 1)) 3 else 0)
    by_cases w : i = e
    · subst w
      rw [if_neg (show ¬ i + 1 < i + 1 by omega), if_pos rfl, va_up_self, b2]
      rw [if_neg ht] at a3
      exact a3.1
    · rw [va_up_ne _ _ w, b2, if_pos (show i + 1 < e + 1 by omega)]
      exact a3
  · have hj : j < va_up (C.2.1 2) e (C.2.1 2 e + 1) i := hj
    show aV (C.1 1) (x2.2.1 j) (va_up (C.2.2 0) e (va_up (C.2.2 0 e) (C.2.1 2 e) r) i j)
    by_cases w : i = e
    · subst w
      rw [va_up_self] at hj ⊢
      rw [if_neg ht] at a3
      by_cases w2 : j = C.2.1 2 i
      · rw [w2, va_up_self, b2, a3.2]; exact hr
      · rw [va_up_ne _ _ w2, b3]
        exact aV_le f4 (a4 j (by rw [b2] at hj w2; omega))
    · rw [va_up_ne _ _ w] at hj ⊢
      rw [b2] at hj
      rw [b3]; exact aV_le f4 (a4 j hj)
  · show aV (C.1 1) (x2.2.2 j) (C.2.2 1 i j)
    rw [b4]; exact aV_le f4 (a5 j hj)
end AS
