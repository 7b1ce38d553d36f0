/-! the machine: what its parts do to a run, in the class's rows and in the reference's -/
def aPop (A : am) (f : Nat) : am := (A.1, va_up A.2.1 2 (va_up (A.2.1 2) f (A.2.1 2 f - 1)), A.2.2)
def aTop (A : am) (f : Nat) : Int32 := A.2.2 0 f (A.2.1 2 f - 1)
def aPush (A : am) (f : Nat) (v : Int32) : am := (A.1, va_up A.2.1 2 (va_up (A.2.1 2) f (A.2.1 2 f + 1)), va_up A.2.2 0 (va_up (A.2.2 0) f (va_up (A.2.2 0 f) (A.2.1 2 f) v)))
def aLoc (A : am) (f k : Nat) (v : Int32) : am := (A.1, A.2.1, va_up A.2.2 1 (va_up (A.2.2 1) f (va_up (A.2.2 1 f) k v)))
def aGo (A : am) (f p : Nat) : am := (A.1, va_up A.2.1 1 (va_up (A.2.1 1) f p), A.2.2)
/-- a new frame for the method m -/
def aOpen (A : am) (m : Nat) : am := (va_up A.1 0 (A.1 0 + 1), va_up (va_up (va_up A.2.1 0 (va_up (A.2.1 0) (A.1 0) m)) 1 (va_up (A.2.1 1) (A.1 0) 0)) 2 (va_up (A.2.1 2) (A.1 0) 0), va_up A.2.2 1 (va_up (A.2.2 1) (A.1 0) (fun _ => 0)))
def aLeave (A : am) (f : Nat) : am := (va_up A.1 0 f, A.2)
/-- a new array of n cells -/
def aMake (A : am) (n : Nat) : am := (va_up (va_up A.1 1 (A.1 1 + 1)) 2 (A.1 2 + n), va_up (va_up A.2.1 3 (va_up (A.2.1 3) (A.1 1) (A.1 2))) 4 (va_up (A.2.1 4) (A.1 1) n), va_up A.2.2 2 (va_up (A.2.2 2) 0 (fun q => if A.1 2 ≤ q then 0 else A.2.2 2 0 q)))
def aCell (A : am) (q : Nat) (v : Int32) : am := (A.1, A.2.1, va_up A.2.2 2 (va_up (A.2.2 2) 0 (va_up (A.2.2 2 0) q v)))
def aOut (A : am) (v : Int32) : am := (va_up A.1 3 (A.1 3 + 1), A.2.1, va_up A.2.2 3 (va_up (A.2.2 3) 0 (va_up (A.2.2 3 0) (A.1 3 % 100) v)))
/-- all stacks have room -/
def aB (A : am) : Prop := A.1 0 ≤ 50 ∧ ∀ i, i < A.1 0 → A.2.1 2 i ≤ 15
section BXc
variable {A : am} {I : SI} {F : SF} {f k p m n q : Nat} {v : Int32}
theorem cB_push (h : cB A I F) (hf : A.1 0 = f + 1) (hh : aB A) (h15 : A.2.1 2 f < 15) : cB (aPush A f v) I (va_up (va_up F 18 (upd (F 18) (15 * f + A.2.1 2 f) v)) 16 (upd (F 16) f (nI (A.2.1 2 f + 1)))) := by
  obtain ⟨a0, a1, a2, a3, a4, a5, a6, a7⟩ := h
  refine ⟨a0, a1, a2, a3, fun i hi => ?_, a5, a6, a7⟩
  have hi : i < A.1 0 := hi
  obtain ⟨b1, b2, b3, b4, b5⟩ := a4 i hi
  refine ⟨b1, b2, ?_, b4, ?_⟩
  · show upd (F 16) f (nI (A.2.1 2 f + 1)) i = nI (va_up (A.2.1 2) f (A.2.1 2 f + 1) i)
    by_cases w : i = f
    · rw [w, va_up_self]; exact if_pos rfl
    · rw [va_up_ne _ _ w]; exact (if_neg w).trans b3
  · intro j hj
    have hj : j < va_up (A.2.1 2) f (A.2.1 2 f + 1) i := hj
    show upd (F 18) (15 * f + A.2.1 2 f) v (15 * i + j) = va_up (A.2.2 0) f (va_up (A.2.2 0 f) (A.2.1 2 f) v) i j
    by_cases w : i = f
    · subst w
      rw [va_up_self] at hj ⊢
      by_cases w2 : j = A.2.1 2 i
      · rw [w2, va_up_self]; exact if_pos rfl
      · rw [va_up_ne _ _ w2]; exact (if_neg (by omega)).trans (b5 j (by omega))
    · rw [va_up_ne _ _ w] at hj ⊢
      have := hh.2 i hi
      exact (if_neg (by omega)).trans (b5 j hj)
theorem cB_pop (h : cB A I F) : cB (aPop A f) I (va_up F 16 (upd (F 16) f (nI (A.2.1 2 f - 1)))) := by
  obtain ⟨a0, a1, a2, a3, a4, a5, a6, a7⟩ := h
  refine ⟨a0, a1, a2, a3, fun i hi => ?_, a5, a6, a7⟩
  have hi : i < A.1 0 := hi
  obtain ⟨b1, b2, b3, b4, b5⟩ := a4 i hi
  refine ⟨b1, b2, ?_, b4, ?_⟩
  · show upd (F 16) f (nI (A.2.1 2 f - 1)) i = nI (va_up (A.2.1 2) f (A.2.1 2 f - 1) i)
    by_cases w : i = f
    · rw [w, va_up_self]; exact if_pos rfl
    · rw [va_up_ne _ _ w]; exact (if_neg w).trans b3
  · intro j hj
    have hj : j < va_up (A.2.1 2) f (A.2.1 2 f - 1) i := hj
    refine b5 j ?_
    by_cases w : i = f
    · subst w
      rw [va_up_self] at hj
      omega
    · rw [va_up_ne _ _ w] at hj
      exact hj
theorem cB_loc (h : cB A I F) (hk : k < 10) : cB (aLoc A f k v) I (va_up F 17 (upd (F 17) (10 * f + k) v)) := by
  obtain ⟨a0, a1, a2, a3, a4, a5, a6, a7⟩ := h
  refine ⟨a0, a1, a2, a3, fun i hi => ?_, a5, a6, a7⟩
  have hi : i < A.1 0 := hi
  obtain ⟨b1, b2, b3, b4, b5⟩ := a4 i hi
  refine ⟨b1, b2, b3, fun j hj => ?_, b5⟩
  show upd (F 17) (10 * f + k) v (10 * i + j) = va_up (A.2.2 1) f (va_up (A.2.2 1 f) k v) i j
  by_cases w : i = f
  · subst w
    rw [va_up_self]
    by_cases w2 : j = k
    · rw [w2, va_up_self]; exact if_pos rfl
    · rw [va_up_ne _ _ w2]; exact (if_neg (by omega)).trans (b4 j hj)
  · rw [va_up_ne _ _ w]
    exact (if_neg (by omega)).trans (b4 j hj)
theorem cB_go (h : cB A I F) : cB (aGo A f p) I (va_up F 15 (upd (F 15) f (nI p))) := by
  obtain ⟨a0, a1, a2, a3, a4, a5, a6, a7⟩ := h
  refine ⟨a0, a1, a2, a3, fun i hi => ?_, a5, a6, a7⟩
  have hi : i < A.1 0 := hi
  obtain ⟨b1, b2, b3, b4, b5⟩ := a4 i hi
  refine ⟨b1, ?_, b3, b4, b5⟩
  show upd (F 15) f (nI p) i = nI (va_up (A.2.1 1) f p i)
  by_cases w : i = f
  · rw [w, va_up_self]; exact if_pos rfl
  · rw [va_up_ne _ _ w]; exact (if_neg w).trans b2
theorem cB_open {F' : SF} (h : cB A I F) (g0 : ∀ r, r ≠ 14 → r ≠ 15 → r ≠ 16 → r ≠ 17 → F' r = F r) (g1 : F' 14 = upd (F 14) (A.1 0) (nI m)) (g2 : F' 15 = upd (F 15) (A.1 0) 0) (g3 : F' 16 = upd (F 16) (A.1 0) 0) (g4 : ∀ c, c < 10 * A.1 0 ∨ 10 * A.1 0 + 10 ≤ c → F' 17 c = F 17 c) (g5 : ∀ j, j < 10 → F' 17 (10 * A.1 0 + j) = 0) : cB (aOpen A m) (va_up I 9 (nI (A.1 0 + 1))) F' := by
  obtain ⟨a0, a1, a2, a3, a4, a5, a6, a7⟩ := h
  refine ⟨rfl, a1, a2, a3, fun i hi => ?_, ?_, ?_, ?_⟩
  · have hi : i < A.1 0 + 1 := hi
    rw [g1, g2, g3, g0 18 (by decide) (by decide) (by decide) (by decide)]
    show upd (F 14) (A.1 0) (nI m) i = nI (va_up (A.2.1 0) (A.1 0) m i) ∧ upd (F 15) (A.1 0) 0 i = nI (va_up (A.2.1 1) (A.1 0) 0 i) ∧ upd (F 16) (A.1 0) 0 i = nI (va_up (A.2.1 2) (A.1 0) 0 i) ∧ (∀ j, j < 10 → F' 17 (10 * i + j) = va_up (A.2.2 1) (A.1 0) (fun _ => 0) i j) ∧ ∀ j, j < va_up (A.2.1 2) (A.1 0) 0 i → F 18 (15 * i + j) = A.2.2 0 i j
    by_cases w : i = A.1 0
    · subst w
      rw [va_up_self, va_up_self, va_up_self, va_up_self]
      exact ⟨if_pos rfl, if_pos rfl, if_pos rfl, g5, fun j hj => absurd hj (Nat.not_lt_zero _)⟩
    · rw [va_up_ne _ _ w, va_up_ne _ _ w, va_up_ne _ _ w, va_up_ne _ _ w]
      obtain ⟨b1, b2, b3, b4, b5⟩ := a4 i (by omega)
      exact ⟨(if_neg w).trans b1, (if_neg w).trans b2, (if_neg w).trans b3, fun j hj => (g4 _ (by omega)).trans (b4 j hj), b5⟩
  · rw [g0 19 (by decide) (by decide) (by decide) (by decide), g0 20 (by decide) (by decide) (by decide) (by decide)]
    exact a5
  · rw [g0 21 (by decide) (by decide) (by decide) (by decide)]
    exact a6
  · rw [g0 22 (by decide) (by decide) (by decide) (by decide)]
    exact a7
theorem cB_leave (h : cB A I F) (hf : A.1 0 = f + 1) : cB (aLeave A f) (va_up I 9 (nI f)) F := by
  obtain ⟨a0, a1, a2, a3, a4, a5, a6, a7⟩ := h
  exact ⟨rfl, a1, a2, a3, fun i hi => a4 i (by have : i < f := hi; omega), a5, a6, a7⟩
theorem cB_make {F' : SF} (h : cB A I F) (hH : aH A) (g0 : ∀ r, r ≠ 19 → r ≠ 20 → r ≠ 21 → F' r = F r) (g1 : F' 19 = upd (F 19) (A.1 1) (nI (A.1 2))) (g2 : F' 20 = upd (F 20) (A.1 1) (nI n)) (g3 : ∀ c, c < A.1 2 → F' 21 c = F 21 c) (g4 : ∀ j, j < n → F' 21 (A.1 2 + j) = 0) : cB (aMake A n) (va_up (va_up I 11 (nI (A.1 2 + n))) 10 (nI (A.1 1 + 1))) F' := by
  obtain ⟨a0, a1, a2, a3, a4, a5, a6, a7⟩ := h
  refine ⟨a0, rfl, rfl, a3, ?_, fun i hi => ?_, fun c hc => ?_, ?_⟩
  · show ∀ i, i < A.1 0 → F' 14 i = _ ∧ F' 15 i = _ ∧ F' 16 i = _ ∧ (∀ j, j < 10 → F' 17 (10 * i + j) = _) ∧ ∀ j, j < A.2.1 2 i → F' 18 (15 * i + j) = _
    rw [g0 14 (by decide) (by decide) (by decide), g0 15 (by decide) (by decide) (by decide), g0 16 (by decide) (by decide) (by decide), g0 17 (by decide) (by decide) (by decide), g0 18 (by decide) (by decide) (by decide)]
    exact a4
  · have hi : i < A.1 1 + 1 := hi
    rw [g1, g2]
    show upd (F 19) (A.1 1) (nI (A.1 2)) i = nI (va_up (A.2.1 3) (A.1 1) (A.1 2) i) ∧ upd (F 20) (A.1 1) (nI n) i = nI (va_up (A.2.1 4) (A.1 1) n i)
    by_cases w : i = A.1 1
    · subst w
      rw [va_up_self, va_up_self]
      exact ⟨if_pos rfl, if_pos rfl⟩
    · rw [va_up_ne _ _ w, va_up_ne _ _ w]
      obtain ⟨b1, b2⟩ := a5 i (by omega)
      exact ⟨(if_neg w).trans b1, (if_neg w).trans b2⟩
  · have hc : c < A.1 2 + n := hc
    show F' 21 c = if A.1 2 ≤ c then 0 else A.2.2 2 0 c
    by_cases w : A.1 2 ≤ c
    · rw [if_pos w]
      have := g4 (c - A.1 2) (by omega)
      rw [show A.1 2 + (c - A.1 2) = c by omega] at this
      exact this
    · rw [if_neg w, g3 c (by omega)]
      exact a6 c (by omega)
  · rw [g0 22 (by decide) (by decide) (by decide)]
    exact a7
theorem cB_cell (h : cB A I F) : cB (aCell A q v) I (va_up F 21 (upd (F 21) q v)) := by
  obtain ⟨a0, a1, a2, a3, a4, a5, a6, a7⟩ := h
  refine ⟨a0, a1, a2, a3, a4, a5, fun c hc => ?_, a7⟩
  show upd (F 21) q v c = va_up (A.2.2 2 0) q v c
  by_cases w : c = q
  · rw [w, va_up_self]; exact if_pos rfl
  · rw [va_up_ne _ _ w]; exact (if_neg w).trans (a6 c hc)
theorem cB_out (h : cB A I F) : cB (aOut A v) (va_up I 12 (nI (A.1 3 + 1))) (va_up F 22 (upd (F 22) (A.1 3 % 100) v)) := by
  obtain ⟨a0, a1, a2, a3, a4, a5, a6, a7⟩ := h
  refine ⟨a0, a1, a2, rfl, a4, a5, a6, fun c h1 h2 => ?_⟩
  have h2 : c < A.1 3 + 1 := h2
  show upd (F 22) (A.1 3 % 100) v c = va_up (A.2.2 3 0) (A.1 3 % 100) v c
  by_cases w : c = A.1 3 % 100
  · rw [w, va_up_self]; exact if_pos rfl
  · rw [va_up_ne _ _ w]
    refine (if_neg w).trans (a7 c h1 ?_)
    by_cases w2 : c = A.1 3
    · rw [Nat.mod_eq_of_lt (by omega)] at w
      exact absurd w2 w
    · omega
end BXc
section BXm
variable {A : am} {I : SI} {F : SF} {f k p m n q : Nat} {v : Int32}
theorem mB_push (h : mB A I F) (hf : A.1 0 = f + 1) (hh : aB A) (h15 : A.2.1 2 f < 15) : mB (aPush A f v) I (va_up (va_up F 20 (upd (F 20) (16 * f + A.2.1 2 f) v)) 19 (upd (F 19) f (nI (A.2.1 2 f + 1)))) := by
  obtain ⟨a0, a1, a2, a3, a4, a5, a6, a7⟩ := h
  refine ⟨a0, a1, a2, a3, fun i hi => ?_, a5, a6, a7⟩
  have hi : i < A.1 0 := hi
  obtain ⟨b1, b2, b3, b4, b5⟩ := a4 i hi
  refine ⟨b1, b2, ?_, b4, ?_⟩
  · show upd (F 19) f (nI (A.2.1 2 f + 1)) i = nI (va_up (A.2.1 2) f (A.2.1 2 f + 1) i)
    by_cases w : i = f
    · rw [w, va_up_self]; exact if_pos rfl
    · rw [va_up_ne _ _ w]; exact (if_neg w).trans b3
  · intro j hj
    have hj : j < va_up (A.2.1 2) f (A.2.1 2 f + 1) i := hj
    show upd (F 20) (16 * f + A.2.1 2 f) v (16 * i + j) = va_up (A.2.2 0) f (va_up (A.2.2 0 f) (A.2.1 2 f) v) i j
    by_cases w : i = f
    · subst w
      rw [va_up_self] at hj ⊢
      by_cases w2 : j = A.2.1 2 i
      · rw [w2, va_up_self]; exact if_pos rfl
      · rw [va_up_ne _ _ w2]; exact (if_neg (by omega)).trans (b5 j (by omega))
    · rw [va_up_ne _ _ w] at hj ⊢
      have := hh.2 i hi
      exact (if_neg (by omega)).trans (b5 j hj)
theorem mB_pop (h : mB A I F) : mB (aPop A f) I (va_up F 19 (upd (F 19) f (nI (A.2.1 2 f - 1)))) := by
  obtain ⟨a0, a1, a2, a3, a4, a5, a6, a7⟩ := h
  refine ⟨a0, a1, a2, a3, fun i hi => ?_, a5, a6, a7⟩
  have hi : i < A.1 0 := hi
  obtain ⟨b1, b2, b3, b4, b5⟩ := a4 i hi
  refine ⟨b1, b2, ?_, b4, ?_⟩
  · show upd (F 19) f (nI (A.2.1 2 f - 1)) i = nI (va_up (A.2.1 2) f (A.2.1 2 f - 1) i)
    by_cases w : i = f
    · rw [w, va_up_self]; exact if_pos rfl
    · rw [va_up_ne _ _ w]; exact (if_neg w).trans b3
  · intro j hj
    have hj : j < va_up (A.2.1 2) f (A.2.1 2 f - 1) i := hj
    refine b5 j ?_
    by_cases w : i = f
    · subst w
      rw [va_up_self] at hj
      omega
    · rw [va_up_ne _ _ w] at hj
      exact hj
theorem mB_loc (h : mB A I F) (hk : k < 10) : mB (aLoc A f k v) I (va_up F 21 (upd (F 21) (10 * f + k) v)) := by
  obtain ⟨a0, a1, a2, a3, a4, a5, a6, a7⟩ := h
  refine ⟨a0, a1, a2, a3, fun i hi => ?_, a5, a6, a7⟩
  have hi : i < A.1 0 := hi
  obtain ⟨b1, b2, b3, b4, b5⟩ := a4 i hi
  refine ⟨b1, b2, b3, fun j hj => ?_, b5⟩
  show upd (F 21) (10 * f + k) v (10 * i + j) = va_up (A.2.2 1) f (va_up (A.2.2 1 f) k v) i j
  by_cases w : i = f
  · subst w
    rw [va_up_self]
    by_cases w2 : j = k
    · rw [w2, va_up_self]; exact if_pos rfl
    · rw [va_up_ne _ _ w2]; exact (if_neg (by omega)).trans (b4 j hj)
  · rw [va_up_ne _ _ w]
    exact (if_neg (by omega)).trans (b4 j hj)
theorem mB_go (h : mB A I F) : mB (aGo A f p) I (va_up F 18 (upd (F 18) f (nI p))) := by
  obtain ⟨a0, a1, a2, a3, a4, a5, a6, a7⟩ := h
  refine ⟨a0, a1, a2, a3, fun i hi => ?_, a5, a6, a7⟩
  have hi : i < A.1 0 := hi
  obtain ⟨b1, b2, b3, b4, b5⟩ := a4 i hi
  refine ⟨b1, ?_, b3, b4, b5⟩
  show upd (F 18) f (nI p) i = nI (va_up (A.2.1 1) f p i)
  by_cases w : i = f
  · rw [w, va_up_self]; exact if_pos rfl
  · rw [va_up_ne _ _ w]; exact (if_neg w).trans b2
theorem mB_open {F' : SF} (h : mB A I F) (g0 : ∀ r, r ≠ 17 → r ≠ 18 → r ≠ 19 → r ≠ 21 → F' r = F r) (g1 : F' 17 = upd (F 17) (A.1 0) (nI m)) (g2 : F' 18 = upd (F 18) (A.1 0) 0) (g3 : F' 19 = upd (F 19) (A.1 0) 0) (g4 : ∀ c, c < 10 * A.1 0 ∨ 10 * A.1 0 + 10 ≤ c → F' 21 c = F 21 c) (g5 : ∀ j, j < 10 → F' 21 (10 * A.1 0 + j) = 0) : mB (aOpen A m) (va_up I 5 (nI (A.1 0 + 1))) F' := by
  obtain ⟨a0, a1, a2, a3, a4, a5, a6, a7⟩ := h
  refine ⟨rfl, a1, a2, a3, fun i hi => ?_, ?_, ?_, ?_⟩
  · have hi : i < A.1 0 + 1 := hi
    rw [g1, g2, g3, g0 20 (by decide) (by decide) (by decide) (by decide)]
    show upd (F 17) (A.1 0) (nI m) i = nI (va_up (A.2.1 0) (A.1 0) m i) ∧ upd (F 18) (A.1 0) 0 i = nI (va_up (A.2.1 1) (A.1 0) 0 i) ∧ upd (F 19) (A.1 0) 0 i = nI (va_up (A.2.1 2) (A.1 0) 0 i) ∧ (∀ j, j < 10 → F' 21 (10 * i + j) = va_up (A.2.2 1) (A.1 0) (fun _ => 0) i j) ∧ ∀ j, j < va_up (A.2.1 2) (A.1 0) 0 i → F 20 (16 * i + j) = A.2.2 0 i j
    by_cases w : i = A.1 0
    · subst w
      rw [va_up_self, va_up_self, va_up_self, va_up_self]
      exact ⟨if_pos rfl, if_pos rfl, if_pos rfl, g5, fun j hj => absurd hj (Nat.not_lt_zero _)⟩
    · rw [va_up_ne _ _ w, va_up_ne _ _ w, va_up_ne _ _ w, va_up_ne _ _ w]
      obtain ⟨b1, b2, b3, b4, b5⟩ := a4 i (by omega)
      exact ⟨(if_neg w).trans b1, (if_neg w).trans b2, (if_neg w).trans b3, fun j hj => (g4 _ (by omega)).trans (b4 j hj), b5⟩
  · rw [g0 22 (by decide) (by decide) (by decide) (by decide), g0 23 (by decide) (by decide) (by decide) (by decide)]
    exact a5
  · rw [g0 24 (by decide) (by decide) (by decide) (by decide)]
    exact a6
  · rw [g0 25 (by decide) (by decide) (by decide) (by decide)]
    exact a7
theorem mB_leave (h : mB A I F) (hf : A.1 0 = f + 1) : mB (aLeave A f) (va_up I 5 (nI f)) F := by
  obtain ⟨a0, a1, a2, a3, a4, a5, a6, a7⟩ := h
  exact ⟨rfl, a1, a2, a3, fun i hi => a4 i (by have : i < f := hi; omega), a5, a6, a7⟩
theorem mB_make {F' : SF} (h : mB A I F) (hH : aH A) (g0 : ∀ r, r ≠ 22 → r ≠ 23 → r ≠ 24 → F' r = F r) (g1 : F' 22 = upd (F 22) (A.1 1) (nI (A.1 2))) (g2 : F' 23 = upd (F 23) (A.1 1) (nI n)) (g3 : ∀ c, c < A.1 2 → F' 24 c = F 24 c) (g4 : ∀ j, j < n → F' 24 (A.1 2 + j) = 0) : mB (aMake A n) (va_up (va_up I 10 (nI (A.1 2 + n))) 9 (nI (A.1 1 + 1))) F' := by
  obtain ⟨a0, a1, a2, a3, a4, a5, a6, a7⟩ := h
  refine ⟨a0, rfl, rfl, a3, ?_, fun i hi => ?_, fun c hc => ?_, ?_⟩
  · show ∀ i, i < A.1 0 → F' 17 i = _ ∧ F' 18 i = _ ∧ F' 19 i = _ ∧ (∀ j, j < 10 → F' 21 (10 * i + j) = _) ∧ ∀ j, j < A.2.1 2 i → F' 20 (16 * i + j) = _
    rw [g0 17 (by decide) (by decide) (by decide), g0 18 (by decide) (by decide) (by decide), g0 19 (by decide) (by decide) (by decide), g0 21 (by decide) (by decide) (by decide), g0 20 (by decide) (by decide) (by decide)]
    exact a4
  · have hi : i < A.1 1 + 1 := hi
    rw [g1, g2]
    show upd (F 22) (A.1 1) (nI (A.1 2)) i = nI (va_up (A.2.1 3) (A.1 1) (A.1 2) i) ∧ upd (F 23) (A.1 1) (nI n) i = nI (va_up (A.2.1 4) (A.1 1) n i)
    by_cases w : i = A.1 1
    · subst w
      rw [va_up_self, va_up_self]
      exact ⟨if_pos rfl, if_pos rfl⟩
    · rw [va_up_ne _ _ w, va_up_ne _ _ w]
      obtain ⟨b1, b2⟩ := a5 i (by omega)
      exact ⟨(if_neg w).trans b1, (if_neg w).trans b2⟩
  · have hc : c < A.1 2 + n := hc
    show F' 24 c = if A.1 2 ≤ c then 0 else A.2.2 2 0 c
    by_cases w : A.1 2 ≤ c
    · rw [if_pos w]
      have := g4 (c - A.1 2) (by omega)
      rw [show A.1 2 + (c - A.1 2) = c by omega] at this
      exact this
    · rw [if_neg w, g3 c (by omega)]
      exact a6 c (by omega)
  · rw [g0 25 (by decide) (by decide) (by decide)]
    exact a7
theorem mB_cell (h : mB A I F) : mB (aCell A q v) I (va_up F 24 (upd (F 24) q v)) := by
  obtain ⟨a0, a1, a2, a3, a4, a5, a6, a7⟩ := h
  refine ⟨a0, a1, a2, a3, a4, a5, fun c hc => ?_, a7⟩
  show upd (F 24) q v c = va_up (A.2.2 2 0) q v c
  by_cases w : c = q
  · rw [w, va_up_self]; exact if_pos rfl
  · rw [va_up_ne _ _ w]; exact (if_neg w).trans (a6 c hc)
theorem mB_out (h : mB A I F) : mB (aOut A v) (va_up I 11 (nI (A.1 3 + 1))) (va_up F 25 (upd (F 25) (A.1 3 % 100) v)) := by
  obtain ⟨a0, a1, a2, a3, a4, a5, a6, a7⟩ := h
  refine ⟨a0, a1, a2, rfl, a4, a5, a6, fun c h1 h2 => ?_⟩
  have h2 : c < A.1 3 + 1 := h2
  show upd (F 25) (A.1 3 % 100) v c = va_up (A.2.2 3 0) (A.1 3 % 100) v c
  by_cases w : c = A.1 3 % 100
  · rw [w, va_up_self]; exact if_pos rfl
  · rw [va_up_ne _ _ w]
    refine (if_neg w).trans (a7 c h1 ?_)
    by_cases w2 : c = A.1 3
    · rw [Nat.mod_eq_of_lt (by omega)] at w
      exact absurd w2 w
    · omega
end BXm
