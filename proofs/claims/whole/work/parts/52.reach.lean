/-! two least solutions are one; the methods that a run can come to -/
theorem aj_le_eq {x y : aj_S} (h : aj_le x y) (g : aj_le y x) : x.1 = y.1 ∧ (∀ k, k < x.1 → x.2.1 k = y.2.1 k) ∧ ∀ k, k < 10 → x.2.2 k = y.2.2 k := by
  refine ⟨h.1, h.2.1, fun k hk => ?_⟩
  rcases h.2.2 k hk with q | q
  · rcases g.2.2 k hk with q2 | q2
    · rw [q, q2]
    · exact q2
  · exact q.symm
theorem aj_least_eq {P : aj_P} {m : Nat} {J K : aj_J} (h : aj_least P m J) (g : aj_least P m K) {p : Nat} {x : aj_S} (hx : J p = some x) : ∃ y, K p = some y ∧ x.1 = y.1 ∧ (∀ k, k < x.1 → x.2.1 k = y.2.1 k) ∧ ∀ k, k < 10 → x.2.2 k = y.2.2 k := by
  obtain ⟨y, h1, h2⟩ := h.2 K g.1 p x hx
  obtain ⟨z, h3, h4⟩ := g.2 J h.1 p y h1
  cases hx.symm.trans h3
  exact ⟨y, h1, aj_le_eq h2 h4⟩
theorem aj_least_none {P : aj_P} {m : Nat} {J K : aj_J} (h : aj_least P m J) (g : aj_least P m K) {p : Nat} (hx : J p = none) : K p = none := by
  cases e : K p with
  | none => rfl
  | some y =>
    obtain ⟨x, h1, -⟩ := aj_least_eq g h e
    rw [hx] at h1
    cases h1
/-- a set of good methods that holds m and all that its ways come to call -/
def ag_set (P : aj_P) (m : Nat) (G : Nat → Bool) : Prop := G m = true ∧ ∀ k, G k = true → k < 8 ∧ P.1 k 0 = 1 ∧ ∃ J, aj_least P k J ∧ ∀ p x, J p = some x → P.2.1 k p = 23 → G (P.2.2 k p).toNatClampNeg = true
/-- a call that a way comes to names a method that is there -/
theorem aj_call {P : aj_P} {k p : Nat} {J : aj_J} {x : aj_S} (h : aj_sol P k J) (hx : J p = some x) (ho : P.2.1 k p = 23) : vp_in (P.2.2 k p) 8 ∧ P.1 (P.2.2 k p).toNatClampNeg 0 = 1 := by
  obtain ⟨-, y, h1, -⟩ := h.1 p x hx
  unfold aj_ef aj_do at h1
  rw [ho] at h1
  rw [if_neg (by decide), if_neg (by decide), if_neg (by decide), if_neg (by decide), if_neg (by decide), if_pos rfl] at h1
  by_cases hv : P.2.2 k p < 0 ∨ 8 ≤ (P.2.2 k p).toNatClampNeg
  · rw [if_pos hv] at h1; cases h1
  · rw [if_neg hv] at h1
    by_cases hm : P.1 (P.2.2 k p).toNatClampNeg 0 = 1
    · exact ⟨hv, hm⟩
    · rw [if_neg hm] at h1; cases h1
