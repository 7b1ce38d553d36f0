/-! the judge, purely: what both judges reckon. Types: 0 neither, 1 an int, 2 an array. A state: the height, the stack by places from below, the locals. -/
abbrev aj_S : Type := Nat × (Nat → Nat) × (Nat → Nat)
/-- the methods: fields (0 there, 1 parameters, 2 arrays, 3 returns, 4 locals, 5 limit, 6 size), orders, numbers -/
abbrev aj_P : Type := (Nat → Nat → Nat) × (Nat → Nat → Nat) × (Nat → Nat → Int32)
/-- the second is the first, or knows less of the locals -/
def aj_le (x y : aj_S) : Prop := x.1 = y.1 ∧ (∀ k, k < x.1 → x.2.1 k = y.2.1 k) ∧ ∀ k, k < 10 → y.2.2 k = 0 ∨ y.2.2 k = x.2.2 k
theorem aj_le_rf (x : aj_S) : aj_le x x := ⟨rfl, fun _ _ => rfl, fun _ _ => Or.inr rfl⟩
theorem aj_le_tr {x y z : aj_S} (h : aj_le x y) (g : aj_le y z) : aj_le x z := by
  refine ⟨h.1.trans g.1, fun k hk => (h.2.1 k hk).trans (g.2.1 k (by have := h.1; omega)), fun k hk => ?_⟩
  rcases g.2.2 k hk with e | e
  · exact Or.inl e
  · rcases h.2.2 k hk with e2 | e2
    · exact Or.inl (e.trans e2)
    · exact Or.inr (e.trans e2)
/-- a step that is at least as glad with more -/
def aj_M (f : aj_S → Option aj_S) : Prop := ∀ x y, aj_le x y → ∀ y', f y = some y' → ∃ x', f x = some x' ∧ aj_le x' y'
theorem aj_M_id : aj_M some := fun x y h y' e => ⟨x, rfl, by cases e; exact h⟩
theorem aj_M_none : aj_M (fun _ => none) := fun _ _ _ _ e => by cases e
theorem aj_M_bind {f g : aj_S → Option aj_S} (hf : aj_M f) (hg : aj_M g) : aj_M (fun x => (f x).bind g) := by
  intro x y h y' e
  cases e1 : f y with
  | none => simp [e1] at e
  | some z =>
    simp [e1] at e
    obtain ⟨w, h1, h2⟩ := hf x y h z e1
    obtain ⟨x', h3, h4⟩ := hg w z h2 y' e
    exact ⟨x', by simp [h1, h3], h4⟩
def aj_pop (t : Nat) (x : aj_S) : Option aj_S := if x.1 = 0 then none else if t = 0 ∨ x.2.1 (x.1 - 1) = t then some (x.1 - 1, x.2) else none
def aj_push (t : Nat) (x : aj_S) : Option aj_S := some (x.1 + 1, va_up x.2.1 x.1 t, x.2.2)
def aj_pops : List Nat → aj_S → Option aj_S
  | [], x => some x
  | t :: r, x => (aj_pop t x).bind (aj_pops r)
def aj_has (k t : Nat) (x : aj_S) : Option aj_S := if x.2.2 k = t then some x else none
def aj_set (k t : Nat) (x : aj_S) : Option aj_S := some (x.1, x.2.1, va_up x.2.2 k t)
def aj_dup (x : aj_S) : Option aj_S := if x.1 = 0 then none else aj_push (x.2.1 (x.1 - 1)) x
def aj_swap (x : aj_S) : Option aj_S := if x.1 < 2 then none else some (x.1, va_up (va_up x.2.1 (x.1 - 2) (x.2.1 (x.1 - 1))) (x.1 - 1) (x.2.1 (x.1 - 2)), x.2.2)
def aj_nil (x : aj_S) : Option aj_S := if x.1 = 0 then some x else none
def aj_lim (n : Nat) (x : aj_S) : Option aj_S := if x.1 ≤ n then some x else none
theorem aj_M_pop (t : Nat) : aj_M (aj_pop t) := by
  intro x y h y' e
  obtain ⟨h1, h2, h3⟩ := h
  unfold aj_pop at e ⊢
  rw [h1]
  split at e
  · cases e
  · next hn =>
    split at e
    · next ht =>
      cases e
      rw [if_neg hn, h2 (y.1 - 1) (by omega), if_pos ht]
      exact ⟨_, rfl, rfl, fun k hk => h2 k (by have : k < y.1 - 1 := hk; omega), h3⟩
    · cases e
theorem aj_M_push (t : Nat) : aj_M (aj_push t) := by
  intro x y h y' e
  obtain ⟨h1, h2, h3⟩ := h
  unfold aj_push at e ⊢
  cases e
  refine ⟨_, rfl, by show x.1 + 1 = y.1 + 1; omega, fun k hk => ?_, h3⟩
  have hk : k < x.1 + 1 := hk
  show va_up x.2.1 x.1 t k = va_up y.2.1 y.1 t k
  rw [h1]
  by_cases hk2 : k = y.1
  · rw [hk2, va_up_self, va_up_self]
  · rw [va_up_ne _ _ hk2, va_up_ne _ _ hk2]
    exact h2 k (by omega)
theorem aj_M_pops : ∀ l : List Nat, aj_M (aj_pops l)
  | [] => aj_M_id
  | t :: r => aj_M_bind (aj_M_pop t) (aj_M_pops r)
theorem aj_M_has {k t : Nat} (hk : k < 10) (ht : t ≠ 0) : aj_M (aj_has k t) := by
  intro x y h y' e
  unfold aj_has at e ⊢
  split at e
  · next hy =>
    cases e
    rcases h.2.2 k hk with q | q
    · exact absurd (hy.symm.trans q) ht
    · rw [if_pos (q.symm.trans hy)]
      exact ⟨x, rfl, h⟩
  · cases e
theorem aj_M_set (k t : Nat) : aj_M (aj_set k t) := by
  intro x y h y' e
  unfold aj_set at e ⊢
  cases e
  refine ⟨_, rfl, h.1, h.2.1, fun j hj => ?_⟩
  show va_up y.2.2 k t j = 0 ∨ va_up y.2.2 k t j = va_up x.2.2 k t j
  by_cases q : j = k
  · rw [q, va_up_self, va_up_self]
    exact Or.inr rfl
  · rw [va_up_ne _ _ q, va_up_ne _ _ q]
    exact h.2.2 j hj
theorem aj_M_dup : aj_M aj_dup := by
  intro x y h y' e
  unfold aj_dup at e ⊢
  split at e
  · cases e
  · next hn =>
    rw [if_neg (by rw [h.1]; exact hn), h.2.1 (x.1 - 1) (by have := h.1; omega), h.1]
    exact aj_M_push _ x y h y' e
theorem aj_M_swap : aj_M aj_swap := by
  intro x y h y' e
  obtain ⟨h1, h2, h3⟩ := h
  unfold aj_swap at e ⊢
  split at e
  · cases e
  · next hn =>
    cases e
    rw [h1, if_neg hn]
    refine ⟨_, rfl, rfl, fun k hk => ?_, h3⟩
    have hk : k < y.1 := hk
    show va_up (va_up x.2.1 (y.1 - 2) (x.2.1 (y.1 - 1))) (y.1 - 1) (x.2.1 (y.1 - 2)) k = va_up (va_up y.2.1 (y.1 - 2) (y.2.1 (y.1 - 1))) (y.1 - 1) (y.2.1 (y.1 - 2)) k
    rw [h2 (y.1 - 1) (by omega), h2 (y.1 - 2) (by omega)]
    by_cases q : k = y.1 - 1
    · rw [q, va_up_self, va_up_self]
    · rw [va_up_ne _ _ q, va_up_ne _ _ q]
      by_cases q2 : k = y.1 - 2
      · rw [q2, va_up_self, va_up_self]
      · rw [va_up_ne _ _ q2, va_up_ne _ _ q2]
        exact h2 k (by omega)
theorem aj_M_nil : aj_M aj_nil := by
  intro x y h y' e
  unfold aj_nil at e ⊢
  split at e
  · next hy =>
    cases e
    rw [if_pos (h.1.trans hy)]
    exact ⟨x, rfl, h⟩
  · cases e
theorem aj_M_lim (n : Nat) : aj_M (aj_lim n) := by
  intro x y h y' e
  unfold aj_lim at e ⊢
  split at e
  · next hy =>
    cases e
    rw [if_pos (by rw [h.1]; exact hy)]
    exact ⟨x, rfl, h⟩
  · cases e
/-- what a method takes, the uppermost first -/
def aj_args (b : Nat) : Nat → List Nat
  | 0 => []
  | n + 1 => (if b.testBit n then 2 else 1) :: aj_args b n
/-- what an order of the fixed ones takes, the uppermost first -/
def aj_takes (o : Nat) : List Nat :=
  if 5 ≤ o ∧ o ≤ 9 ∨ o = 16 ∨ o = 17 then [1, 1] else if o = 10 ∨ o = 15 ∨ o = 25 then [1] else if o = 11 ∨ o = 19 then [2] else if o = 12 then [1, 2] else if o = 13 then [1, 1, 2] else []
/-- what it puts: 0 nothing -/
def aj_puts (o : Nat) : Nat := if o = 0 ∨ 5 ≤ o ∧ o ≤ 9 ∨ o = 11 ∨ o = 12 then 1 else if o = 10 ∨ o = 18 then 2 else 0
def aj_put (t : Nat) (x : aj_S) : Option aj_S := if t = 0 then some x else aj_push t x
theorem aj_M_put (t : Nat) : aj_M (aj_put t) := by
  intro x y h y' e
  unfold aj_put at e ⊢
  split
  · next q => rw [if_pos q] at e; cases e; exact ⟨x, rfl, h⟩
  · next q => rw [if_neg q] at e; exact aj_M_push t x y h y' e
/-- the number names a local of the method -/
def aj_lok (P : aj_P) (m : Nat) (v : Int32) : Prop := vp_in v (P.1 m 4)
/-- it names a method that is there -/
def aj_mok (P : aj_P) (v : Int32) : Prop := vp_in v 8 ∧ P.1 v.toNatClampNeg 0 = 1
/-- what an instruction does to a state, without its limit -/
def aj_do (P : aj_P) (m o : Nat) (v : Int32) (x : aj_S) : Option aj_S :=
  if o = 1 ∨ o = 3 then (if v < 0 ∨ P.1 m 4 ≤ v.toNatClampNeg then none else (aj_has v.toNatClampNeg (if o = 1 then 1 else 2) x).bind (aj_push (if o = 1 then 1 else 2)))
  else if o = 2 ∨ o = 4 then (if v < 0 ∨ P.1 m 4 ≤ v.toNatClampNeg then none else (aj_pop (if o = 2 then 1 else 2) x).bind (aj_set v.toNatClampNeg (if o = 2 then 1 else 2)))
  else if o = 20 then aj_dup x
  else if o = 21 then aj_pop 0 x
  else if o = 22 then aj_swap x
  else if o = 23 then (if v < 0 ∨ 8 ≤ v.toNatClampNeg then none else if P.1 v.toNatClampNeg 0 = 1 then (aj_pops (aj_args (P.1 v.toNatClampNeg 2) (P.1 v.toNatClampNeg 1)) x).bind (aj_put (P.1 v.toNatClampNeg 3)) else none)
  else if o = 24 then ((if P.1 m 3 = 0 then some x else aj_pop (P.1 m 3) x).bind aj_nil)
  else (aj_pops (aj_takes o) x).bind (aj_put (aj_puts o))
def aj_ef (P : aj_P) (m o : Nat) (v : Int32) (x : aj_S) : Option aj_S := (aj_do P m o v x).bind (aj_lim (P.1 m 5))
theorem aj_M_do (P : aj_P) (m o : Nat) (v : Int32) (hl : P.1 m 4 ≤ 10) : aj_M (aj_do P m o v) := by
  have t1 : (if o = 1 then 1 else 2) ≠ 0 := by split <;> decide
  by_cases h1 : o = 1 ∨ o = 3
  · intro x y h y' e
    unfold aj_do at e ⊢
    rw [if_pos h1] at e ⊢
    by_cases hv : v < 0 ∨ P.1 m 4 ≤ v.toNatClampNeg
    · rw [if_pos hv] at e; cases e
    · rw [if_neg hv] at e ⊢
      exact aj_M_bind (aj_M_has (by omega) t1) (aj_M_push _) x y h y' e
  by_cases h2 : o = 2 ∨ o = 4
  · intro x y h y' e
    unfold aj_do at e ⊢
    rw [if_neg h1, if_pos h2] at e ⊢
    by_cases hv : v < 0 ∨ P.1 m 4 ≤ v.toNatClampNeg
    · rw [if_pos hv] at e; cases e
    · rw [if_neg hv] at e ⊢
      exact aj_M_bind (aj_M_pop _) (aj_M_set _ _) x y h y' e
  by_cases h3 : o = 20
  · intro x y h y' e
    unfold aj_do at e ⊢
    rw [if_neg h1, if_neg h2, if_pos h3] at e ⊢
    exact aj_M_dup x y h y' e
  by_cases h4 : o = 21
  · intro x y h y' e
    unfold aj_do at e ⊢
    rw [if_neg h1, if_neg h2, if_neg h3, if_pos h4] at e ⊢
    exact aj_M_pop _ x y h y' e
  by_cases h5 : o = 22
  · intro x y h y' e
    unfold aj_do at e ⊢
    rw [if_neg h1, if_neg h2, if_neg h3, if_neg h4, if_pos h5] at e ⊢
    exact aj_M_swap x y h y' e
  by_cases h6 : o = 23
  · intro x y h y' e
    unfold aj_do at e ⊢
    rw [if_neg h1, if_neg h2, if_neg h3, if_neg h4, if_neg h5, if_pos h6] at e ⊢
    by_cases hv : v < 0 ∨ 8 ≤ v.toNatClampNeg
    · rw [if_pos hv] at e; cases e
    · rw [if_neg hv] at e ⊢
      by_cases hm : P.1 v.toNatClampNeg 0 = 1
      · rw [if_pos hm] at e ⊢
        exact aj_M_bind (aj_M_pops _) (aj_M_put _) x y h y' e
      · rw [if_neg hm] at e; cases e
  by_cases h7 : o = 24
  · intro x y h y' e
    unfold aj_do at e ⊢
    rw [if_neg h1, if_neg h2, if_neg h3, if_neg h4, if_neg h5, if_neg h6, if_pos h7] at e ⊢
    by_cases hv : P.1 m 3 = 0
    · rw [if_pos hv] at e ⊢
      exact aj_M_bind aj_M_id aj_M_nil x y h y' e
    · rw [if_neg hv] at e ⊢
      exact aj_M_bind (aj_M_pop _) aj_M_nil x y h y' e
  intro x y h y' e
  unfold aj_do at e ⊢
  rw [if_neg h1, if_neg h2, if_neg h3, if_neg h4, if_neg h5, if_neg h6, if_neg h7] at e ⊢
  exact aj_M_bind (aj_M_pops _) (aj_M_put _) x y h y' e
theorem aj_M_ef (P : aj_P) (m o : Nat) (v : Int32) (hl : P.1 m 4 ≤ 10) : aj_M (aj_ef P m o v) := aj_M_bind (aj_M_do P m o v hl) (aj_M_lim _)
/-- where an instruction leads -/
def aj_jmp (o : Nat) : Bool := decide (14 ≤ o ∧ o ≤ 17) || decide (o = 19)
def aj_next (o p : Nat) (v : Int32) : List Int32 := (if aj_jmp o = true then [v] else []) ++ (if o = 14 ∨ o = 24 then [] else [nI (p + 1)])
abbrev aj_J : Type := Nat → Option aj_S
/-- the place is done: its instruction can be done, and what is behind it is known where it leads -/
def aj_sb (P : aj_P) (m : Nat) (J : aj_J) (p : Nat) (x : aj_S) : Prop := ∃ y, aj_ef P m (P.2.1 m p) (P.2.2 m p) x = some y ∧ ∀ t, t ∈ aj_next (P.2.1 m p) p (P.2.2 m p) → vp_in t (P.1 m 6) ∧ ∃ z, J t.toNatClampNeg = some z ∧ aj_le y z
/-- ahead of the first instruction -/
def aj_in (P : aj_P) (m : Nat) : aj_S := (0, (fun _ => 0), fun k => if P.1 m 1 ≤ k then 0 else if (P.1 m 2).testBit k then 2 else 1)
/-- what is known of all places, and holds -/
def aj_sol (P : aj_P) (m : Nat) (J : aj_J) : Prop := (∀ p x, J p = some x → p < P.1 m 6 ∧ aj_sb P m J p x) ∧ ∃ z, J 0 = some z ∧ aj_le (aj_in P m) z
/-- the first knows at least as much, and at no place more than the second -/
def aj_Le (J S : aj_J) : Prop := ∀ p x, J p = some x → ∃ z, S p = some z ∧ aj_le x z
theorem aj_Le_rf (J : aj_J) : aj_Le J J := fun _ x h => ⟨x, h, aj_le_rf x⟩
theorem aj_Le_tr {J K S : aj_J} (h : aj_Le J K) (g : aj_Le K S) : aj_Le J S := fun p x e => by
  obtain ⟨z, h1, h2⟩ := h p x e
  obtain ⟨w, h3, h4⟩ := g p z h1
  exact ⟨w, h3, aj_le_tr h2 h4⟩
/-- the least of them -/
def aj_least (P : aj_P) (m : Nat) (J : aj_J) : Prop := aj_sol P m J ∧ ∀ S, aj_sol P m S → aj_Le J S
def aj_same (z y : aj_S) : Bool := decide (z.1 = y.1) && (List.range y.1).all fun k => decide (z.2.1 k = y.2.1 k)
def aj_chg (z y : aj_S) : Bool := (List.range 10).any fun k => decide (z.2.2 k ≠ 0 ∧ z.2.2 k ≠ y.2.2 k)
def aj_meet (z y : aj_S) : aj_S := (z.1, z.2.1, fun k => if z.2.2 k = y.2.2 k then z.2.2 k else 0)
theorem aj_same_iff {z y : aj_S} : aj_same z y = true ↔ z.1 = y.1 ∧ ∀ k, k < y.1 → z.2.1 k = y.2.1 k := by
  simp [aj_same, List.all_eq_true]
theorem aj_chg_no {z y : aj_S} : aj_chg z y = false ↔ ∀ k, k < 10 → z.2.2 k = 0 ∨ z.2.2 k = y.2.2 k := by
  constructor
  · intro h k hk
    have h2 : ¬ aj_chg z y = true := by rw [h]; decide
    by_cases q : z.2.2 k = 0
    · exact Or.inl q
    · by_cases q2 : z.2.2 k = y.2.2 k
      · exact Or.inr q2
      · exact absurd (List.any_eq_true.mpr ⟨k, List.mem_range.mpr hk, by simp [q, q2]⟩) h2
  · intro h
    cases e : aj_chg z y with
    | false => rfl
    | true =>
      obtain ⟨k, hk, h2⟩ := List.any_eq_true.mp e
      have h3 := of_decide_eq_true h2
      rcases h k (List.mem_range.mp hk) with q | q
      · exact absurd q h3.1
      · exact absurd q h3.2
/-- what is behind an instruction comes to a place; n: the method's size; marks: the places that wait -/
def aj_arr (n : Nat) (t : Int32) (y : aj_S) (Jk : aj_J × (Nat → Bool)) : Option (aj_J × (Nat → Bool)) :=
  if t < 0 ∨ n ≤ t.toNatClampNeg then none else match Jk.1 t.toNatClampNeg with
    | none => some (va_up Jk.1 t.toNatClampNeg (some y), va_up Jk.2 t.toNatClampNeg true)
    | some z => if aj_same z y = true then (if aj_chg z y = true then some (va_up Jk.1 t.toNatClampNeg (some (aj_meet z y)), va_up Jk.2 t.toNatClampNeg true) else some Jk) else none
def aj_arrs (n : Nat) (y : aj_S) : List Int32 → aj_J × (Nat → Bool) → Option (aj_J × (Nat → Bool))
  | [], Jk => some Jk
  | t :: r, Jk => (aj_arr n t y Jk).bind (aj_arrs n y r)
/-- a waiting place is looked at -/
def aj_look (P : aj_P) (m p : Nat) (Jk : aj_J × (Nat → Bool)) : Option (aj_J × (Nat → Bool)) := match Jk.1 p with
  | none => none
  | some x => (aj_ef P m (P.2.1 m p) (P.2.2 m p) x).bind fun y => aj_arrs (P.1 m 6) y (aj_next (P.2.1 m p) p (P.2.2 m p)) (Jk.1, va_up Jk.2 p false)
/-- below every solution a step can be done, and stays below -/
theorem aj_arr_le {n : Nat} {t : Int32} {y : aj_S} {J S : aj_J} {k : Nat → Bool} (hJ : aj_Le J S) (ht : vp_in t n) {z : aj_S} (hz : S t.toNatClampNeg = some z) (hy : aj_le y z) : ∃ J' k', aj_arr n t y (J, k) = some (J', k') ∧ aj_Le J' S := by
  have ht2 : ¬ (t < 0 ∨ n ≤ t.toNatClampNeg) := ht
  unfold aj_arr
  rw [if_neg ht2]
  dsimp only
  have up : ∀ w : aj_S, aj_le w z → aj_Le (va_up J t.toNatClampNeg (some w)) S := by
    intro w hw p x e
    by_cases q : p = t.toNatClampNeg
    · rw [q, va_up_self] at e
      cases e
      rw [q]
      exact ⟨z, hz, hw⟩
    · rw [va_up_ne _ _ q] at e
      exact hJ p x e
  cases e : J t.toNatClampNeg with
  | none => exact ⟨_, _, rfl, up y hy⟩
  | some x =>
    obtain ⟨z2, h1, h2⟩ := hJ _ x e
    cases hz.symm.trans h1
    have hs : aj_same x y = true := aj_same_iff.mpr ⟨h2.1.trans hy.1.symm, fun k hk => (h2.2.1 k (by have := h2.1; have := hy.1; omega)).trans (hy.2.1 k hk).symm⟩
    dsimp only
    rw [if_pos hs]
    by_cases hc : aj_chg x y = true
    · rw [if_pos hc]
      refine ⟨_, _, rfl, up _ ⟨h2.1, h2.2.1, fun k hk => ?_⟩⟩
      show z.2.2 k = 0 ∨ z.2.2 k = if x.2.2 k = y.2.2 k then x.2.2 k else 0
      rcases h2.2.2 k hk with q | q
      · exact Or.inl q
      · rcases hy.2.2 k hk with q2 | q2
        · exact Or.inl q2
        · rw [if_pos (q.symm.trans q2)]
          exact Or.inr q
    · rw [if_neg hc]
      exact ⟨_, _, rfl, hJ⟩
theorem aj_arrs_le {n : Nat} {y : aj_S} {S : aj_J} : ∀ (l : List Int32) {J : aj_J} {k : Nat → Bool}, aj_Le J S → (∀ t, t ∈ l → vp_in t n ∧ ∃ z, S t.toNatClampNeg = some z ∧ aj_le y z) → ∃ J' k', aj_arrs n y l (J, k) = some (J', k') ∧ aj_Le J' S
  | [], J, k, hJ, _ => ⟨J, k, rfl, hJ⟩
  | t :: r, J, k, hJ, h => by
    obtain ⟨ht, z, hz, hy⟩ := h t List.mem_cons_self
    obtain ⟨J1, k1, h1, h2⟩ := aj_arr_le (k := k) hJ ht hz hy
    obtain ⟨J2, k2, h3, h4⟩ := aj_arrs_le r (k := k1) h2 (fun t2 h2 => h t2 (List.mem_cons_of_mem _ h2))
    exact ⟨J2, k2, by simp [aj_arrs, h1, h3], h4⟩
theorem aj_look_le {P : aj_P} {m p : Nat} {J S : aj_J} {k : Nat → Bool} (hl : P.1 m 4 ≤ 10) (hS : aj_sol P m S) (hJ : aj_Le J S) {x : aj_S} (hx : J p = some x) : ∃ J' k', aj_look P m p (J, k) = some (J', k') ∧ aj_Le J' S := by
  obtain ⟨z, h1, h2⟩ := hJ p x hx
  obtain ⟨-, y, h3, h4⟩ := hS.1 p z h1
  obtain ⟨y2, h5, h6⟩ := aj_M_ef P m _ _ hl x z h2 y h3
  obtain ⟨J', k', h7, h8⟩ := aj_arrs_le (n := P.1 m 6) (y := y2) _ (k := va_up k p false) hJ (fun t ht => by
    obtain ⟨q1, w, q2, q3⟩ := h4 t ht
    exact ⟨q1, w, q2, aj_le_tr h6 q3⟩)
  exact ⟨J', k', by simp [aj_look, hx, h5, h7], h8⟩
/-- what a step keeps: nothing known is lost but what is marked -/
def aj_kp (J : aj_J) (k : Nat → Bool) (J' : aj_J) (k' : Nat → Bool) : Prop := aj_Le J J' ∧ (∀ p, k p = true → k' p = true) ∧ ∀ p x, J' p = some x → k' p = false → ∃ z, J p = some z ∧ aj_le x z ∧ k p = false
theorem aj_kp_tr {J J1 J2 : aj_J} {k k1 k2 : Nat → Bool} (h : aj_kp J k J1 k1) (g : aj_kp J1 k1 J2 k2) : aj_kp J k J2 k2 := by
  refine ⟨aj_Le_tr h.1 g.1, fun p q => g.2.1 p (h.2.1 p q), fun p x e q => ?_⟩
  obtain ⟨z, h1, h2, h3⟩ := g.2.2 p x e q
  obtain ⟨w, h4, h5, h6⟩ := h.2.2 p z h1 h3
  exact ⟨w, h4, aj_le_tr h2 h5, h6⟩
theorem aj_meet_le (z y : aj_S) : aj_le z (aj_meet z y) := by
  refine ⟨rfl, fun _ _ => rfl, fun k _ => ?_⟩
  show (if z.2.2 k = y.2.2 k then z.2.2 k else 0) = 0 ∨ (if z.2.2 k = y.2.2 k then z.2.2 k else 0) = z.2.2 k
  split
  · exact Or.inr rfl
  · exact Or.inl rfl
theorem aj_meet_le2 {z y : aj_S} (h : aj_same z y = true) : aj_le y (aj_meet z y) := by
  obtain ⟨h1, h2⟩ := aj_same_iff.mp h
  refine ⟨h1.symm, fun k hk => (h2 k hk).symm, fun k _ => ?_⟩
  show (if z.2.2 k = y.2.2 k then z.2.2 k else 0) = 0 ∨ (if z.2.2 k = y.2.2 k then z.2.2 k else 0) = y.2.2 k
  split
  · next q => exact Or.inr q
  · exact Or.inl rfl
theorem aj_arr_kp {n : Nat} {t : Int32} {y : aj_S} {J J' : aj_J} {k k' : Nat → Bool} (h : aj_arr n t y (J, k) = some (J', k')) : vp_in t n ∧ aj_kp J k J' k' ∧ ∃ z, J' t.toNatClampNeg = some z ∧ aj_le y z := by
  unfold aj_arr at h
  by_cases ht : t < 0 ∨ n ≤ t.toNatClampNeg
  · rw [if_pos ht] at h; cases h
  · rw [if_neg ht] at h
    dsimp only at h
    refine ⟨ht, ?_⟩
    have mk : ∀ p, k p = true → va_up k t.toNatClampNeg true p = true := fun p q => by
      by_cases e : p = t.toNatClampNeg
      · rw [e, va_up_self]
      · rw [va_up_ne _ _ e]; exact q
    have un : ∀ (w : aj_S) (p : Nat) (x : aj_S), va_up J t.toNatClampNeg (some w) p = some x → va_up k t.toNatClampNeg true p = false → ∃ z, J p = some z ∧ aj_le x z ∧ k p = false := fun w p x e q => by
      by_cases e2 : p = t.toNatClampNeg
      · rw [e2, va_up_self] at q; cases q
      · rw [va_up_ne _ _ e2] at e q
        exact ⟨x, e, aj_le_rf x, q⟩
    cases e : J t.toNatClampNeg with
    | none =>
      simp only [e] at h
      cases h
      refine ⟨⟨fun p x q => ?_, mk, un y⟩, y, va_up_self _ _ _, aj_le_rf y⟩
      by_cases e2 : p = t.toNatClampNeg
      · rw [e2, e] at q; cases q
      · rw [va_up_ne _ _ e2]; exact ⟨x, q, aj_le_rf x⟩
    | some z =>
      simp only [e] at h
      by_cases hs : aj_same z y = true
      · rw [if_pos hs] at h
        by_cases hc : aj_chg z y = true
        · rw [if_pos hc] at h
          cases h
          refine ⟨⟨fun p x q => ?_, mk, un _⟩, aj_meet z y, va_up_self _ _ _, aj_meet_le2 hs⟩
          by_cases e2 : p = t.toNatClampNeg
          · rw [e2, e] at q
            cases q
            rw [e2, va_up_self]
            exact ⟨_, rfl, aj_meet_le _ _⟩
          · rw [va_up_ne _ _ e2]; exact ⟨x, q, aj_le_rf x⟩
        · rw [if_neg hc] at h
          cases h
          obtain ⟨s1, s2⟩ := aj_same_iff.mp hs
          refine ⟨⟨aj_Le_rf _, fun _ q => q, fun p x q q2 => ⟨x, q, aj_le_rf x, q2⟩⟩, z, e, s1.symm, fun j hj => (s2 j hj).symm, fun j hj => ?_⟩
          exact aj_chg_no.mp (by cases q : aj_chg z y <;> simp_all) j hj
      · rw [if_neg hs] at h; cases h
theorem aj_arrs_kp {n : Nat} {y : aj_S} : ∀ (l : List Int32) {J J' : aj_J} {k k' : Nat → Bool}, aj_arrs n y l (J, k) = some (J', k') → aj_kp J k J' k' ∧ ∀ t, t ∈ l → vp_in t n ∧ ∃ z, J' t.toNatClampNeg = some z ∧ aj_le y z
  | [], J, J', k, k', h => by
    cases h
    exact ⟨⟨aj_Le_rf _, fun _ q => q, fun p x q q2 => ⟨x, q, aj_le_rf x, q2⟩⟩, fun _ ht => by cases ht⟩
  | t :: r, J, J', k, k', h => by
    cases e : aj_arr n t y (J, k) with
    | none => simp [aj_arrs, e] at h
    | some Jk =>
      obtain ⟨J1, k1⟩ := Jk
      simp [aj_arrs, e] at h
      obtain ⟨h1, h2, z, h3, h4⟩ := aj_arr_kp e
      obtain ⟨h5, h6⟩ := aj_arrs_kp r h
      refine ⟨aj_kp_tr h2 h5, fun t2 ht => ?_⟩
      rcases List.mem_cons.mp ht with rfl | ht
      · obtain ⟨w, q1, q2⟩ := h5.1 _ z h3
        exact ⟨h1, w, q1, aj_le_tr h4 q2⟩
      · exact h6 t2 ht
/-- what holds between looks: places in the code; the entry; marked places are known; the others are done -/
def aj_I (P : aj_P) (m : Nat) (J : aj_J) (k : Nat → Bool) : Prop := (∀ p x, J p = some x → p < P.1 m 6) ∧ (∃ z, J 0 = some z ∧ aj_le (aj_in P m) z) ∧ (∀ p, k p = true → ∃ x, J p = some x) ∧ ∀ p x, J p = some x → k p = false → aj_sb P m J p x
theorem aj_sb_kp {P : aj_P} {m : Nat} {J J' : aj_J} {p : Nat} {x x' : aj_S} (hl : P.1 m 4 ≤ 10) (h : aj_sb P m J p x) (hJ : aj_Le J J') (hx : aj_le x' x) : aj_sb P m J' p x' := by
  obtain ⟨y, h1, h2⟩ := h
  obtain ⟨y2, h3, h4⟩ := aj_M_ef P m _ _ hl x' x hx y h1
  refine ⟨y2, h3, fun t ht => ?_⟩
  obtain ⟨q1, z, q2, q3⟩ := h2 t ht
  obtain ⟨w, q4, q5⟩ := hJ _ z q2
  exact ⟨q1, w, q4, aj_le_tr h4 (aj_le_tr q3 q5)⟩
theorem aj_arr_dom {n : Nat} {t : Int32} {y : aj_S} {J J' : aj_J} {k k' : Nat → Bool} (h : aj_arr n t y (J, k) = some (J', k')) : (∀ p x, J' p = some x → p < n ∨ ∃ z, J p = some z) ∧ ∀ p, k' p = true → k p = true ∨ ∃ x, J' p = some x := by
  unfold aj_arr at h
  by_cases ht : t < 0 ∨ n ≤ t.toNatClampNeg
  · rw [if_pos ht] at h; cases h
  · rw [if_neg ht] at h
    dsimp only at h
    have ht2 : t.toNatClampNeg < n := by omega
    have a1 : ∀ w p x, va_up J t.toNatClampNeg (some w) p = some x → p < n ∨ ∃ z, J p = some z := fun w p x e => by
      by_cases q : p = t.toNatClampNeg
      · exact Or.inl (by rw [q]; exact ht2)
      · rw [va_up_ne _ _ q] at e; exact Or.inr ⟨x, e⟩
    have a2 : ∀ (w : aj_S) p, va_up k t.toNatClampNeg true p = true → k p = true ∨ ∃ x, va_up J t.toNatClampNeg (some w) p = some x := fun w p e => by
      by_cases q : p = t.toNatClampNeg
      · exact Or.inr ⟨w, by rw [q, va_up_self]⟩
      · rw [va_up_ne _ _ q] at e; exact Or.inl e
    cases e : J t.toNatClampNeg with
    | none =>
      simp only [e] at h
      cases h
      exact ⟨a1 y, a2 y⟩
    | some z =>
      simp only [e] at h
      by_cases hs : aj_same z y = true
      · rw [if_pos hs] at h
        by_cases hc : aj_chg z y = true
        · rw [if_pos hc] at h
          cases h
          exact ⟨a1 _, a2 _⟩
        · rw [if_neg hc] at h
          cases h
          exact ⟨fun p x q => Or.inr ⟨x, q⟩, fun p q => Or.inl q⟩
      · rw [if_neg hs] at h; cases h
theorem aj_arrs_dom {n : Nat} {y : aj_S} : ∀ (l : List Int32) {J J' : aj_J} {k k' : Nat → Bool}, aj_arrs n y l (J, k) = some (J', k') → (∀ p x, J' p = some x → p < n ∨ ∃ z, J p = some z) ∧ ∀ p, k' p = true → k p = true ∨ ∃ x, J' p = some x
  | [], J, J', k, k', h => by
    cases h
    exact ⟨fun p x q => Or.inr ⟨x, q⟩, fun p q => Or.inl q⟩
  | t :: r, J, J', k, k', h => by
    cases e : aj_arr n t y (J, k) with
    | none => simp [aj_arrs, e] at h
    | some Jk =>
      obtain ⟨J1, k1⟩ := Jk
      simp [aj_arrs, e] at h
      obtain ⟨h1, h2⟩ := aj_arr_dom e
      obtain ⟨h3, h4⟩ := aj_arrs_dom r h
      obtain ⟨h5, -⟩ := aj_arrs_kp r h
      refine ⟨fun p x q => ?_, fun p q => ?_⟩
      · rcases h3 p x q with q2 | ⟨z, q2⟩
        · exact Or.inl q2
        · exact h1 p z q2
      · rcases h4 p q with q2 | q2
        · rcases h2 p q2 with q3 | ⟨x, q3⟩
          · exact Or.inl q3
          · obtain ⟨w, q4, -⟩ := h5.1 p x q3
            exact Or.inr ⟨w, q4⟩
        · exact Or.inr q2
theorem aj_look_I {P : aj_P} {m p : Nat} {J J' : aj_J} {k k' : Nat → Bool} (hl : P.1 m 4 ≤ 10) (hI : aj_I P m J k) (h : aj_look P m p (J, k) = some (J', k')) : aj_I P m J' k' ∧ aj_Le J J' := by
  unfold aj_look at h
  dsimp only at h
  cases e : J p with
  | none => simp [e] at h
  | some x =>
    simp only [e] at h
    cases e2 : aj_ef P m (P.2.1 m p) (P.2.2 m p) x with
    | none => simp [e2] at h
    | some y =>
      simp only [e2, Option.bind_some] at h
      obtain ⟨h1, h2⟩ := aj_arrs_kp _ h
      obtain ⟨h3, h4⟩ := aj_arrs_dom _ h
      obtain ⟨i1, ⟨z0, i2, i3⟩, i4, i5⟩ := hI
      refine ⟨⟨fun q w hq => ?_, ?_, fun q hq => ?_, fun q w hq hk => ?_⟩, h1.1⟩
      · rcases h3 q w hq with r | ⟨z, r⟩
        · exact r
        · exact i1 q z r
      · obtain ⟨w, r1, r2⟩ := h1.1 0 z0 i2
        exact ⟨w, r1, aj_le_tr i3 r2⟩
      · rcases h4 q hq with r | r
        · by_cases e3 : q = p
          · obtain ⟨w, r1, -⟩ := h1.1 p x e
            exact ⟨w, by rw [e3]; exact r1⟩
          · rw [va_up_ne _ _ e3] at r
            obtain ⟨w, r1⟩ := i4 q r
            obtain ⟨w2, r2, -⟩ := h1.1 q w r1
            exact ⟨w2, r2⟩
        · exact r
      · obtain ⟨z, r1, r2, r3⟩ := h1.2.2 q w hq hk
        by_cases e3 : q = p
        · subst e3
          cases e.symm.trans r1
          obtain ⟨y2, r4, r5⟩ := aj_M_ef P m _ _ hl w x r2 y e2
          refine ⟨y2, r4, fun t ht => ?_⟩
          obtain ⟨s1, v, s2, s3⟩ := h2 t ht
          exact ⟨s1, v, s2, aj_le_tr r5 s3⟩
        · rw [va_up_ne _ _ e3] at r3
          exact aj_sb_kp hl (i5 q z r1 r3) h1.1 r2
/-- when nothing waits, it is a solution, and if it has been below every one, the least -/
theorem aj_done {P : aj_P} {m : Nat} {J : aj_J} {k : Nat → Bool} (hI : aj_I P m J k) (hk : ∀ p, p < P.1 m 6 → k p = false) (hS : ∀ S, aj_sol P m S → aj_Le J S) : aj_least P m J :=
  ⟨⟨fun p x h => ⟨hI.1 p x h, hI.2.2.2 p x h (hk p (hI.1 p x h))⟩, hI.2.1⟩, hS⟩
/-- the start: the entry comes to place 0 -/
theorem aj_first {P : aj_P} {m : Nat} (h0 : 0 < P.1 m 6) : aj_I P m (va_up (fun _ => none) 0 (some (aj_in P m))) (va_up (fun _ => false) 0 true) := by
  refine ⟨fun p x h => ?_, ⟨_, va_up_self _ _ _, aj_le_rf _⟩, fun p h => ?_, fun p x h g => ?_⟩
  · by_cases q : p = 0
    · rw [q]; exact h0
    · rw [va_up_ne _ _ q] at h; cases h
  · by_cases q : p = 0
    · exact ⟨_, by rw [q, va_up_self]⟩
    · rw [va_up_ne _ _ q] at h; cases h
  · by_cases q : p = 0
    · rw [q, va_up_self] at g; cases g
    · rw [va_up_ne _ _ q] at h; cases h
theorem aj_first_le {P : aj_P} {m : Nat} {S : aj_J} (hS : aj_sol P m S) : aj_Le (va_up (fun _ => none) 0 (some (aj_in P m))) S := by
  intro p x h
  by_cases q : p = 0
  · rw [q, va_up_self] at h
    cases h
    rw [q]
    exact hS.2
  · rw [va_up_ne _ _ q] at h; cases h
