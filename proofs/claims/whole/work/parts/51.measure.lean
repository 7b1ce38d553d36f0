/-! how long a judge can look: each look makes this number smaller -/
def aj_sum (f : Nat → Nat) : Nat → Nat
  | 0 => 0
  | n + 1 => aj_sum f n + f n
theorem aj_sum_up {f : Nat → Nat} {p v : Nat} : ∀ {n : Nat}, p < n → aj_sum (va_up f p v) n + f p = aj_sum f n + v
  | 0, h => absurd h (Nat.not_lt_zero _)
  | n + 1, h => by
    show aj_sum (va_up f p v) n + va_up f p v n + f p = aj_sum f n + f n + v
    by_cases q : n = p
    · subst q
      rw [va_up_self]
      have e : ∀ j, j ≤ n → aj_sum (va_up f n v) j = aj_sum f j := by
        intro j
        induction j with
        | zero => intro _; rfl
        | succ j ih =>
          intro hj
          show aj_sum (va_up f n v) j + va_up f n v j = aj_sum f j + f j
          rw [ih (by omega), va_up_ne _ _ (by omega)]
      rw [e n (Nat.le_refl _)]
      omega
    · rw [va_up_ne _ _ q]
      have := aj_sum_up (f := f) (p := p) (v := v) (n := n) (by omega)
      omega
theorem aj_sum_le {f g : Nat → Nat} : ∀ {n : Nat}, (∀ j, j < n → f j ≤ g j) → aj_sum f n ≤ aj_sum g n
  | 0, _ => Nat.le_refl _
  | n + 1, h => by
    have h1 := aj_sum_le (f := f) (g := g) (n := n) (fun j hj => h j (by omega))
    have h2 := h n (by omega)
    show aj_sum f n + f n ≤ aj_sum g n + g n
    omega
theorem aj_sum_lt {f g : Nat → Nat} {p : Nat} : ∀ {n : Nat}, (∀ j, j < n → f j ≤ g j) → p < n → f p < g p → aj_sum f n < aj_sum g n
  | 0, _, h, _ => absurd h (Nat.not_lt_zero _)
  | n + 1, h, hp, hf => by
    show aj_sum f n + f n < aj_sum g n + g n
    by_cases q : p = n
    · subst q
      have h1 := aj_sum_le (f := f) (g := g) (n := p) (fun j hj => h j (by omega))
      omega
    · have h1 := aj_sum_lt (f := f) (g := g) (p := p) (n := n) (fun j hj => h j (by omega)) (by omega) hf
      have h2 := h n (by omega)
      omega
theorem aj_sum_c {f : Nat → Nat} {c : Nat} : ∀ {n : Nat}, (∀ j, j < n → f j ≤ c) → aj_sum f n ≤ c * n
  | 0, _ => Nat.zero_le _
  | n + 1, h => by
    have h1 := aj_sum_c (f := f) (c := c) (n := n) (fun j hj => h j (by omega))
    have h2 := h n (by omega)
    show aj_sum f n + f n ≤ c * (n + 1)
    rw [Nat.mul_succ]
    omega
theorem aj_sum_0 {f : Nat → Nat} {p : Nat} : ∀ {n : Nat}, aj_sum f n = 0 → p < n → f p = 0
  | 0, _, h => absurd h (Nat.not_lt_zero _)
  | n + 1, h, hp => by
    have h : aj_sum f n + f n = 0 := h
    by_cases q : p = n
    · rw [q]; omega
    · exact aj_sum_0 (n := n) (by omega) (by omega)
/-- how many of the locals are known -/
def aj_cnt (x : aj_S) : Nat := aj_sum (fun k => if x.2.2 k = 0 then 0 else 1) 10
theorem aj_cnt_le (x : aj_S) : aj_cnt x ≤ 10 := by
  have := aj_sum_c (f := fun k => if x.2.2 k = 0 then 0 else 1) (c := 1) (n := 10) (fun j _ => by split <;> omega)
  unfold aj_cnt
  omega
theorem aj_cnt_meet {z y : aj_S} (h : aj_chg z y = true) : aj_cnt (aj_meet z y) < aj_cnt z := by
  obtain ⟨k, hk, h2⟩ := List.any_eq_true.mp h
  have h3 := of_decide_eq_true h2
  refine aj_sum_lt (p := k) (fun j _ => ?_) (List.mem_range.mp hk) ?_
  · show (if (if z.2.2 j = y.2.2 j then z.2.2 j else 0) = 0 then 0 else 1) ≤ if z.2.2 j = 0 then 0 else 1
    by_cases q : z.2.2 j = 0
    · rw [if_pos q, if_pos (by split <;> omega)]
      exact Nat.le_refl _
    · rw [if_neg q]
      by_cases q2 : (if z.2.2 j = y.2.2 j then z.2.2 j else 0) = 0
      · rw [if_pos q2]; omega
      · rw [if_neg q2]; exact Nat.le_refl _
  · show (if (if z.2.2 k = y.2.2 k then z.2.2 k else 0) = 0 then 0 else 1) < if z.2.2 k = 0 then 0 else 1
    rw [if_neg h3.2, if_pos rfl, if_neg h3.1]
    decide
def aj_w (J : aj_J) (k : Nat → Bool) (p : Nat) : Nat := (match J p with | none => 11 | some x => aj_cnt x) + if k p = true then 1 else 0
def aj_mu (n : Nat) (J : aj_J) (k : Nat → Bool) : Nat := aj_sum (aj_w J k) n
theorem aj_w_up (J : aj_J) (k : Nat → Bool) (p : Nat) (w : Option aj_S) (b : Bool) : aj_w (va_up J p w) (va_up k p b) = va_up (aj_w J k) p ((match w with | none => 11 | some x => aj_cnt x) + if b = true then 1 else 0) := by
  funext j
  by_cases q : j = p
  · subst q
    simp only [aj_w, va_up_self]
  · simp only [aj_w, va_up_ne _ _ q]
theorem aj_arr_mu {n : Nat} {t : Int32} {y : aj_S} {J J' : aj_J} {k k' : Nat → Bool} (h : aj_arr n t y (J, k) = some (J', k')) : aj_mu n J' k' ≤ aj_mu n J k := by
  unfold aj_arr at h
  by_cases ht : t < 0 ∨ n ≤ t.toNatClampNeg
  · rw [if_pos ht] at h; cases h
  · rw [if_neg ht] at h
    dsimp only at h
    have ht2 : t.toNatClampNeg < n := by omega
    have st : ∀ w : aj_S, aj_cnt w + 1 ≤ aj_w J k t.toNatClampNeg → aj_mu n (va_up J t.toNatClampNeg (some w)) (va_up k t.toNatClampNeg true) ≤ aj_mu n J k := by
      intro w hw
      unfold aj_mu
      rw [aj_w_up]
      have := aj_sum_up (f := aj_w J k) (v := aj_cnt w + 1) ht2
      have e : (match some w with | none => 11 | some x => aj_cnt x) + (if true = true then 1 else 0) = aj_cnt w + 1 := by simp
      rw [e]
      omega
    cases e : J t.toNatClampNeg with
    | none =>
      simp only [e] at h
      cases h
      refine st y ?_
      have := aj_cnt_le y
      unfold aj_w
      rw [e]
      dsimp only
      omega
    | some z =>
      simp only [e] at h
      by_cases hs : aj_same z y = true
      · rw [if_pos hs] at h
        by_cases hc : aj_chg z y = true
        · rw [if_pos hc] at h
          cases h
          refine st _ ?_
          have := aj_cnt_meet hc
          unfold aj_w
          rw [e]
          dsimp only
          omega
        · rw [if_neg hc] at h
          cases h
          exact Nat.le_refl _
      · rw [if_neg hs] at h; cases h
theorem aj_arrs_mu {n : Nat} {y : aj_S} : ∀ (l : List Int32) {J J' : aj_J} {k k' : Nat → Bool}, aj_arrs n y l (J, k) = some (J', k') → aj_mu n J' k' ≤ aj_mu n J k
  | [], J, J', k, k', h => by
    cases h
    exact Nat.le_refl _
  | t :: r, J, J', k, k', h => by
    cases e : aj_arr n t y (J, k) with
    | none => simp [aj_arrs, e] at h
    | some Jk =>
      obtain ⟨J1, k1⟩ := Jk
      simp [aj_arrs, e] at h
      exact Nat.le_trans (aj_arrs_mu r h) (aj_arr_mu e)
theorem aj_look_mu {P : aj_P} {m p : Nat} {J J' : aj_J} {k k' : Nat → Bool} (hp : p < P.1 m 6) (hk : k p = true) (h : aj_look P m p (J, k) = some (J', k')) : aj_mu (P.1 m 6) J' k' + 1 ≤ aj_mu (P.1 m 6) J k := by
  unfold aj_look at h
  dsimp only at h
  cases e : J p with
  | none => simp [e] at h
  | some x =>
    simp only [e] at h
    cases e2 : aj_ef P m (P.2.1 m p) (P.2.2 m p) x with
    | none => simp [e2] at h
    | some y =>
      simp only [e2, Option.bind_some] at h
      have h1 := aj_arrs_mu _ h
      have h2 : aj_w J (va_up k p false) = va_up (aj_w J k) p (aj_cnt x) := by
        have e3 := aj_w_up J k p (some x) false
        have e4 : va_up J p (some x) = J := by
          funext j
          by_cases q : j = p
          · rw [q, va_up_self, e]
          · rw [va_up_ne _ _ q]
        rw [e4] at e3
        rw [e3]
        simp
      have h3 := aj_sum_up (f := aj_w J k) (v := aj_cnt x) hp
      have h4 : aj_w J k p = aj_cnt x + 1 := by
        unfold aj_w
        rw [e, hk]
        simp
      have h5 : aj_mu (P.1 m 6) J (va_up k p false) = aj_sum (va_up (aj_w J k) p (aj_cnt x)) (P.1 m 6) := by
        unfold aj_mu
        rw [h2]
      have h6 : aj_mu (P.1 m 6) J k = aj_sum (aj_w J k) (P.1 m 6) := rfl
      omega
theorem aj_mu_first {P : aj_P} {m : Nat} : aj_mu (P.1 m 6) (va_up (fun _ => none) 0 (some (aj_in P m))) (va_up (fun _ => false) 0 true) ≤ 11 * P.1 m 6 := by
  refine aj_sum_c (fun j _ => ?_)
  unfold aj_w
  by_cases q : j = 0
  · rw [q, va_up_self, va_up_self]
    have := aj_cnt_le (aj_in P m)
    dsimp only
    simp
    omega
  · rw [va_up_ne _ _ q, va_up_ne _ _ q]
    simp
theorem aj_mu_0 {n : Nat} {J : aj_J} {k : Nat → Bool} (h : aj_mu n J k = 0) {p : Nat} (hp : p < n) : k p = false := by
  have h1 := aj_sum_0 h hp
  unfold aj_w at h1
  cases e : k p with
  | false => rfl
  | true =>
    rw [e] at h1
    simp at h1
/-- how many wait -/
def aj_nw (n : Nat) (k : Nat → Bool) : Nat := aj_sum (fun p => if k p = true then 1 else 0) n
theorem aj_nw_mu {n : Nat} {J : aj_J} {k : Nat → Bool} : aj_nw n k ≤ aj_mu n J k := by
  refine aj_sum_le (fun j _ => ?_)
  unfold aj_w
  omega
