/-! the pure state: ints by number, arrays by the number of their cell -/
abbrev SI : Type := Nat → Int32
abbrev SF : Type := Nat → Nat → Int32
/-- a boolean -/
def bo (x : Int32) : Prop := x = 0 ∨ x = 1
theorem bo_n {x : Int32} (h : bo x) : narrow .boolean (.int x) = .int x := by
  rcases h with rfl | rfl <;> rfl
theorem bo_f {x : Int32} (h : bo x) : fits .boolean (.int x) = true := by
  rcases h with rfl | rfl <;> rfl
theorem bo_0 : bo 0 := Or.inl rfl
theorem bo_1 : bo 1 := Or.inr rfl
theorem vin_lt {x : Int32} {n : Nat} (h : vp_in x n) : x.toNatClampNeg < n := by
  have h : ¬ (x < 0 ∨ n ≤ x.toNatClampNeg) := h
  omega
/-- the cells of a world of N cells at the addresses a, and what is new -/
def xA (N : Nat) (a : Nat → Nat) (sz : Nat) : Nat → Prop := fun q => (∃ j, j < N ∧ q = a j) ∨ sz ≤ q
/-- the addresses are apart -/
def xJ (N : Nat) (a : Nat → Nat) : Prop := ∀ i j, i < N → j < N → a i = a j → i = j
theorem xA_up {N : Nat} {a : Nat → Nat} {sz sz2 q : Nat} (h : xA N a sz2 q) (hz : sz ≤ sz2) : xA N a sz q := by
  rcases h with h | h
  · exact Or.inl h
  · exact Or.inr (Nat.le_trans hz h)
theorem xD {N : Nat} {a : Nat → Nat} {sz : Nat} {ws : va_W} (hJ : xJ N a) (hl : ws.map (·.1) = (List.range N).map a) : va_D (xA N a sz) ws := by
  have key : ∀ (i : Nat) (q : Nat × va_E), ws[i]? = some q → i < N ∧ q.1 = a i := by
    intro i q h
    have h1 : (ws.map (·.1))[i]? = some q.1 := by rw [List.getElem?_map, h]; rfl
    rw [hl, List.getElem?_map] at h1
    by_cases hi : i < N
    · rw [List.getElem?_range hi] at h1
      exact ⟨hi, (Option.some.inj h1).symm⟩
    · rw [List.getElem?_eq_none (by simpa using hi)] at h1
      cases h1
  refine ⟨fun i j p q hi hj e => ?_, fun k q hk => ?_⟩
  · obtain ⟨h1, h2⟩ := key i p hi
    obtain ⟨h3, h4⟩ := key j q hj
    exact hJ i j h1 h3 (h2.symm.trans (e.trans h4))
  · obtain ⟨h1, h2⟩ := key k q hk
    exact Or.inl ⟨k, h1, h2⟩
section XC
variable {p : Program} {l : Launch} {e : Env} {R : Room} {s : State} {m : MethodId} {args : Array Value} {below : List Frame} {meth : Method} {c : Code} {H : Heap} {locs : List Loc} {cells slots : Nat} {Q : State → Prop}
variable {pc : Nat} {ls : Array Slot} {rest st0 : List Value} {av : Array Value} {N : Nat} {a : Nat → Nat} {H0 : Heap} {B : SI → SF → Heap → Prop}
/-- behind a call that answers an int -/
theorem xc_i {P1 : Int32 → SI → SF → Prop} (hr : va_Run p l e R s m args below meth c H locs cells slots 0 0 (F0 m pc ls st0) rest (va_Qi (fun r (u : SI × SF) => P1 r u.1 u.2) (fun u t => B u.1 u.2 t.heap) (xA N a H.size) av) (xA N a H.size)) (hS : va_S (xA N a H0.size) H0 H locs)
    (kk : ∀ (r : Int32) (I : SI) (F : SF) (H1 : Heap) (locs1 : List Loc), B I F H1 → P1 r I F → va_S (xA N a H0.size) H0 H1 locs1 → W p l e R s m args below meth c H1 locs1 cells slots Q (F0 m (pc + 3) ls (.int r :: rest))) : W p l e R s m args below meth c H locs cells slots Q (F0 m pc ls st0) :=
  va_calli hr hS (fun q _ h => xA_up h hS.1) (fun q h => xA_up h hS.1) (fun r u t H1 locs1 ht _ hp hb _ _ hS1 => kk r u.1 u.2 H1 locs1 (by rw [← ht]; exact hb) hp hS1)
/-- behind a call that answers nothing -/
theorem xc_v {P1 : SI → SF → Prop} (hr : va_Run p l e R s m args below meth c H locs cells slots 0 0 (F0 m pc ls st0) rest (va_Qv (fun (u : SI × SF) => P1 u.1 u.2) (fun u t => B u.1 u.2 t.heap) (xA N a H.size) av) (xA N a H.size)) (hS : va_S (xA N a H0.size) H0 H locs)
    (kk : ∀ (I : SI) (F : SF) (H1 : Heap) (locs1 : List Loc), B I F H1 → P1 I F → va_S (xA N a H0.size) H0 H1 locs1 → W p l e R s m args below meth c H1 locs1 cells slots Q (F0 m (pc + 3) ls rest)) : W p l e R s m args below meth c H locs cells slots Q (F0 m pc ls st0) :=
  va_callv hr hS (fun q _ h => xA_up h hS.1) (fun q h => xA_up h hS.1) (fun u t H1 locs1 ht _ hp hb _ _ hS1 => kk u.1 u.2 H1 locs1 (by rw [← ht]; exact hb) hp hS1)
end XC
