/-! rows of bits, and what an instruction does to them -/
def bs (n : Nat) (f : Nat → Bool) (v : Int32) : Prop := ∀ i, i < 32 → bt v i = (decide (i < n) && f i)
section BS
variable {n j : Nat} {f g : Nat → Bool} {v w : Int32}
theorem bs_eq (hv : bs n f v) (hw : bs n g w) (hn : n ≤ 32) : v = w ↔ ∀ i, i < n → f i = g i := by
  constructor
  · intro h i hi
    have h1 := hv i (by omega)
    have h2 := hw i (by omega)
    rw [h, h2, decide_eq_true hi] at h1
    simpa using h1.symm
  · intro h
    apply b_ext
    intro i hi
    rw [hv i hi, hw i hi]
    by_cases q : i < n
    · rw [h i q]
    · rw [decide_eq_false q, Bool.false_and, Bool.false_and]
theorem bs_cg (h : bs n f v) (q : ∀ i, i < n → f i = g i) : bs n g v := by
  intro i hi
  rw [h i hi]
  by_cases w : i < n
  · rw [q i w]
  · rw [decide_eq_false w, Bool.false_and, Bool.false_and]
theorem bs_0 : bs n (fun _ => false) 0 := fun i _ => by rw [b_0, Bool.and_false]
theorem bs_shr (h : bs n f v) (hj : j ≤ n) (hn : n < 32) : bs (n - j) (fun i => f (j + i)) (v >>> (nI j &&& 31)) := by
  intro i hi
  rw [b_sshr j (by omega) _ hi]
  have h31 : bt v 31 = false := by rw [h 31 (by decide), decide_eq_false (show ¬ 31 < n by omega), Bool.false_and]
  by_cases q : j + i < 32
  · rw [if_pos q, h _ q]
    by_cases w : i < n - j
    · rw [decide_eq_true w, decide_eq_true (show j + i < n by omega)]
    · rw [decide_eq_false w, decide_eq_false (show ¬ j + i < n by omega), Bool.false_and]
  · rw [if_neg q, h31, decide_eq_false (show ¬ i < n - j by omega), Bool.false_and]
theorem b_one {i : Nat} (hj : j < 32) (hi : i < 32) : bt ((1 : Int32) <<< (nI j &&& 31)) i = decide (i = j) := by
  rw [nx_shl hj, bt_nI _ hi]
  by_cases h : i = j
  · subst h; simp
  · rw [Nat.testBit_two_pow_of_ne (by omega), decide_eq_false h]
theorem b_mask {i : Nat} (hj : j < 32) (hi : i < 32) : bt (((1 : Int32) <<< (nI j &&& 31)) - 1) i = decide (i < j) := by
  have e : nI (2 ^ j) - 1 = nI (2 ^ j - 1) := nI_sub (2 ^ j) 1 Nat.one_le_two_pow
  rw [nx_shl hj, e, bt_nI _ hi, Nat.testBit_two_pow_sub_one]
theorem bs_mask (h : bs n f v) (hj : j ≤ n) (hn : n < 32) : bs j f (v &&& (((1 : Int32) <<< (nI j &&& 31)) - 1)) := by
  intro i hi
  rw [b_and, h i hi, b_mask (by omega) hi]
  by_cases q : i < j
  · rw [decide_eq_true q, decide_eq_true (show i < n by omega)]; simp
  · rw [decide_eq_false q]; simp
theorem bs_put (h : bs n f v) (hn : n < 32) : bs (n + 1) (va_up f n true) (v ||| ((1 : Int32) <<< (nI n &&& 31))) := by
  intro i hi
  rw [b_or, h i hi, b_one hn hi]
  by_cases q : i = n
  · subst q; rw [va_up_self]; simp
  · rw [va_up_ne _ _ q, decide_eq_false q]
    by_cases w : i < n
    · rw [decide_eq_true w, decide_eq_true (show i < n + 1 by omega)]; simp
    · rw [decide_eq_false w, decide_eq_false (show ¬ i < n + 1 by omega)]; simp
theorem bs_put0 (h : bs n f v) : bs (n + 1) (va_up f n false) v := by
  intro i hi
  rw [h i hi]
  by_cases q : i = n
  · subst q; rw [va_up_self]; simp
  · rw [va_up_ne _ _ q]
    by_cases w : i < n
    · rw [decide_eq_true w, decide_eq_true (show i < n + 1 by omega)]
    · rw [decide_eq_false w, decide_eq_false (show ¬ i < n + 1 by omega)]
theorem bs_bit (h : bs n f v) (hj : j < 32) : ((v >>> (nI j &&& 31)) &&& 1) = 0 ↔ ¬ (j < n ∧ f j = true) := by
  have e : ∀ i, i < 32 → bt ((v >>> (nI j &&& 31)) &&& 1) i = (decide (i = 0) && (decide (j < n) && f j)) := by
    intro i hi
    rw [b_and, b_sshr j hj _ hi, show (1 : Int32) = nI 1 from rfl, bt_nI _ hi]
    by_cases q : i = 0
    · subst q
      rw [if_pos (by omega), Nat.add_zero, h j hj]
      simp
    · have : Nat.testBit 1 i = false := Nat.testBit_lt_two_pow (Nat.one_lt_two_pow (by omega))
      rw [this, decide_eq_false q, Bool.and_false, Bool.false_and]
  constructor
  · intro h0 hq
    have := e 0 (by decide)
    rw [h0, b_0, hq.2, decide_eq_true hq.1] at this
    exact absurd this (by decide)
  · intro hq
    apply b_ext
    intro i hi
    rw [e i hi, b_0]
    by_cases w : j < n
    · have : f j = false := by
        cases z : f j with
        | false => rfl
        | true => exact absurd ⟨w, z⟩ hq
      rw [this, Bool.and_false, Bool.and_false]
    · rw [decide_eq_false w, Bool.false_and, Bool.and_false]
theorem bs_clr (h : bs n f v) (hj : j < 32) : bs n (va_up f j false) (v &&& (((1 : Int32) <<< (nI j &&& 31)) ^^^ (-1))) := by
  intro i hi
  rw [b_and, h i hi, b_xor, b_one hj hi, b_m1 i hi]
  by_cases q : i = j
  · subst q; rw [va_up_self]; simp
  · rw [va_up_ne _ _ q, decide_eq_false q]; simp
theorem bs_set (h : bs n f v) (hj : j < n) (hn : n ≤ 32) : bs n (va_up f j true) (v ||| ((1 : Int32) <<< (nI j &&& 31))) := by
  intro i hi
  rw [b_or, h i hi, b_one (by omega) hi]
  by_cases q : i = j
  · subst q; rw [va_up_self, decide_eq_true hj]; simp
  · rw [va_up_ne _ _ q, decide_eq_false q]; simp
theorem bs_and (h : bs n f v) (h2 : bs n g w) : bs n (fun i => f i && g i) (v &&& w) := by
  intro i hi
  rw [b_and, h i hi, h2 i hi]
  by_cases q : i < n
  · rw [decide_eq_true q]; simp
  · rw [decide_eq_false q]; simp
theorem bs_nI {a : Nat} (h : a < 2 ^ n) : bs n a.testBit (nI a) := by
  intro i hi
  rw [bt_nI _ hi]
  by_cases q : i < n
  · rw [decide_eq_true q, Bool.true_and]
  · rw [decide_eq_false q, tb_hi h (by omega), Bool.false_and]
theorem bs_turn (h : bs (n + 2) f v) (hn : n + 2 < 32) : bs (n + 2) (va_up (va_up f n (f (n + 1))) (n + 1) (f n)) (((v &&& (((1 : Int32) <<< (nI n &&& 31)) - 1)) ||| ((v >>> (nI (n + 1) &&& 31)) <<< (nI n &&& 31))) ||| (((v >>> (nI n &&& 31)) &&& 1) <<< (nI (n + 1) &&& 31))) := by
  have hm := bs_mask h (show n ≤ n + 2 by omega) hn
  have hu := bs_shr h (show n + 1 ≤ n + 2 by omega) hn
  rw [show n + 2 - (n + 1) = 1 by omega] at hu
  have hl := bs_mask (j := 1) (bs_shr h (show n ≤ n + 2 by omega) hn) (by omega) (by omega)
  rw [show ((1 : Int32) <<< (nI 1 &&& 31)) - 1 = 1 by decide] at hl
  intro i hi
  rw [b_or, b_or, hm i hi, b_shl n (by omega) _ hi, b_shl (n + 1) (by omega) _ hi, hu (i - n) (by omega), hl (i - (n + 1)) (by omega)]
  rcases Nat.lt_or_ge i n with q | q
  · rw [decide_eq_true q, decide_eq_false (show ¬ n ≤ i by omega), decide_eq_false (show ¬ n + 1 ≤ i by omega), decide_eq_true (show i < n + 2 by omega), va_up_ne _ _ (by omega), va_up_ne _ _ (by omega)]
    simp
  · by_cases q1 : i = n
    · subst q1
      rw [va_up_ne _ _ (by omega), va_up_self, decide_eq_false (show ¬ i < i by omega), decide_eq_true (show i ≤ i by omega), decide_eq_false (show ¬ i + 1 ≤ i by omega), decide_eq_true (show i < i + 2 by omega), Nat.sub_self]
      simp
    · by_cases q2 : i = n + 1
      · subst q2
        rw [va_up_self, decide_eq_false (show ¬ n + 1 < n by omega), decide_eq_true (show n ≤ n + 1 by omega), decide_eq_true (show n + 1 ≤ n + 1 by omega), decide_eq_true (show n + 1 < n + 2 by omega), Nat.sub_self, show n + 1 - n = 1 by omega]
        simp
      · rw [decide_eq_false (show ¬ i < n by omega), decide_eq_false (show ¬ i - n < 1 by omega), decide_eq_false (show ¬ i - (n + 1) < 1 by omega), decide_eq_false (show ¬ i < n + 2 by omega)]
        simp
end BS
theorem dec_up (f : Nat → Nat) (n t c j : Nat) : decide (va_up f n t j = c) = va_up (fun k => decide (f k = c)) n (decide (t = c)) j := by
  by_cases q : j = n
  · subst q; rw [va_up_self, va_up_self]
  · rw [va_up_ne _ _ q, va_up_ne _ _ q]
theorem va_same {α : Type} (f : Nat → α) (k : Nat) {v : α} (h : f k = v) : va_up f k v = f := by
  funext j
  by_cases w : j = k
  · rw [w, va_up_self, h]
  · rw [va_up_ne _ _ w]
/-! what is taken -/
theorem aj_pop_s {t : Nat} {x y : aj_S} (h : aj_pop t x = some y) : ¬ x.1 = 0 ∧ (t = 0 ∨ x.2.1 (x.1 - 1) = t) ∧ y = (x.1 - 1, x.2) := by
  unfold aj_pop at h
  by_cases q : x.1 = 0
  · rw [if_pos q] at h; cases h
  · rw [if_neg q] at h
    by_cases w : t = 0 ∨ x.2.1 (x.1 - 1) = t
    · rw [if_pos w] at h; exact ⟨q, w, (Option.some.inj h).symm⟩
    · rw [if_neg w] at h; cases h
theorem aj_pop_y {t : Nat} {x : aj_S} (h : ¬ x.1 = 0) (w : t = 0 ∨ x.2.1 (x.1 - 1) = t) : aj_pop t x = some (x.1 - 1, x.2) := by
  unfold aj_pop; rw [if_neg h, if_pos w]
theorem aj_pop_n {t : Nat} {x : aj_S} (h : ¬ (¬ x.1 = 0 ∧ (t = 0 ∨ x.2.1 (x.1 - 1) = t))) : aj_pop t x = none := by
  cases e : aj_pop t x with
  | none => rfl
  | some y => exact absurd ⟨(aj_pop_s e).1, (aj_pop_s e).2.1⟩ h
theorem t12 (b : Bool) : ¬ (if b = true then 2 else 1) = 0 := by cases b <;> decide
theorem aj_args_s : ∀ (n : Nat) {b : Nat} {x y : aj_S}, aj_pops (aj_args b n) x = some y → n ≤ x.1 ∧ (∀ i, i < n → x.2.1 (x.1 - n + i) = if b.testBit i = true then 2 else 1) ∧ y = (x.1 - n, x.2)
  | 0, b, x, y, h => by
    cases h
    exact ⟨Nat.zero_le _, fun i hi => absurd hi (Nat.not_lt_zero _), rfl⟩
  | n + 1, b, x, y, h => by
    have h : (aj_pop (if b.testBit n = true then 2 else 1) x).bind (aj_pops (aj_args b n)) = some y := h
    cases e : aj_pop (if b.testBit n = true then 2 else 1) x with
    | none => rw [e] at h; cases h
    | some z =>
      rw [e] at h
      have h : aj_pops (aj_args b n) z = some y := h
      obtain ⟨h1, h2, h3⟩ := aj_args_s n h
      obtain ⟨q1, q2, q3⟩ := aj_pop_s e
      have q4 : x.2.1 (x.1 - 1) = if b.testBit n = true then 2 else 1 := q2.resolve_left (t12 _)
      subst q3
      have h1 : n ≤ x.1 - 1 := h1
      refine ⟨by omega, fun i hi => ?_, ?_⟩
      · by_cases w : i = n
        · subst w
          rw [show x.1 - (i + 1) + i = x.1 - 1 by omega]
          exact q4
        · have := h2 i (by omega)
          rw [show x.1 - (n + 1) + i = x.1 - 1 - n + i by omega]
          exact this
      · rw [h3]
        show (x.1 - 1 - n, x.2) = (x.1 - (n + 1), x.2)
        rw [show x.1 - 1 - n = x.1 - (n + 1) by omega]
theorem aj_args_y : ∀ (n : Nat) {b : Nat} {x : aj_S}, n ≤ x.1 → (∀ i, i < n → x.2.1 (x.1 - n + i) = if b.testBit i = true then 2 else 1) → aj_pops (aj_args b n) x = some (x.1 - n, x.2)
  | 0, b, x, _, _ => rfl
  | n + 1, b, x, h1, h2 => by
    show (aj_pop (if b.testBit n = true then 2 else 1) x).bind (aj_pops (aj_args b n)) = some (x.1 - (n + 1), x.2)
    have := h2 n (by omega)
    rw [show x.1 - (n + 1) + n = x.1 - 1 by omega] at this
    have key := aj_args_y n (b := b) (x := (x.1 - 1, x.2)) (by show n ≤ x.1 - 1; omega) (fun i hi => by
      have := h2 i (by omega)
      rw [show x.1 - (n + 1) + i = x.1 - 1 - n + i by omega] at this
      exact this)
    rw [aj_pop_y (by omega) (Or.inr this)]
    show aj_pops (aj_args b n) (x.1 - 1, x.2) = _
    rw [key]
    show some (x.1 - 1 - n, x.2) = some (x.1 - (n + 1), x.2)
    rw [show x.1 - 1 - n = x.1 - (n + 1) by omega]
theorem aj_args_1 {t b : Nat} (x : aj_S) (h : t = if b.testBit 0 = true then 2 else 1) : aj_pops (aj_args b 1) x = aj_pop t x := by
  show (aj_pop (if b.testBit 0 = true then 2 else 1) x).bind some = aj_pop t x
  rw [← h]
  cases aj_pop t x <;> rfl
/-- the types on the stack and in the locals are types -/
def wt (x : aj_S) : Prop := (∀ k, k < x.1 → x.2.1 k = 1 ∨ x.2.1 k = 2) ∧ ∀ k, k < 10 → x.2.2 k ≤ 2
theorem wt_pop {t : Nat} {x y : aj_S} (h : wt x) (e : aj_pop t x = some y) : wt y := by
  obtain ⟨-, -, rfl⟩ := aj_pop_s e
  exact ⟨fun k hk => h.1 k (by have : k < x.1 - 1 := hk; omega), h.2⟩
theorem wt_pops : ∀ (l : List Nat) {x y : aj_S}, wt x → aj_pops l x = some y → wt y ∧ y.1 ≤ x.1
  | [], x, y, h, e => by cases e; exact ⟨h, Nat.le_refl _⟩
  | t :: r, x, y, h, e => by
    have e : (aj_pop t x).bind (aj_pops r) = some y := e
    cases q : aj_pop t x with
    | none => rw [q] at e; cases e
    | some z =>
      rw [q] at e
      obtain ⟨h1, h2⟩ := wt_pops r (wt_pop h q) e
      obtain ⟨-, -, q3⟩ := aj_pop_s q
      refine ⟨h1, ?_⟩
      rw [q3] at h2
      have h2 : y.1 ≤ x.1 - 1 := h2
      omega
theorem wt_push {t : Nat} {x y : aj_S} (ht : t = 1 ∨ t = 2) (h : wt x) (e : aj_push t x = some y) : wt y ∧ y.1 ≤ x.1 + 1 := by
  cases e
  refine ⟨⟨fun k hk => ?_, h.2⟩, Nat.le_refl _⟩
  have hk : k < x.1 + 1 := hk
  show va_up x.2.1 x.1 t k = 1 ∨ va_up x.2.1 x.1 t k = 2
  by_cases q : k = x.1
  · rw [q, va_up_self]; exact ht
  · rw [va_up_ne _ _ q]; exact h.1 k (by omega)
theorem wt_put {t : Nat} {x y : aj_S} (ht : t ≤ 2) (h : wt x) (e : aj_put t x = some y) : wt y ∧ y.1 ≤ x.1 + 1 := by
  unfold aj_put at e
  by_cases q : t = 0
  · rw [if_pos q] at e; cases e; exact ⟨h, by omega⟩
  · rw [if_neg q] at e; exact wt_push (by omega) h e
theorem wt_set {k t : Nat} {x y : aj_S} (ht : t ≤ 2) (h : wt x) (e : aj_set k t x = some y) : wt y ∧ y.1 ≤ x.1 := by
  cases e
  refine ⟨⟨h.1, fun j hj => ?_⟩, Nat.le_refl _⟩
  show va_up x.2.2 k t j ≤ 2
  by_cases q : j = k
  · rw [q, va_up_self]; exact ht
  · rw [va_up_ne _ _ q]; exact h.2 j hj
theorem wt_swap {x y : aj_S} (h : wt x) (e : aj_swap x = some y) : wt y ∧ y.1 ≤ x.1 := by
  unfold aj_swap at e
  by_cases q : x.1 < 2
  · rw [if_pos q] at e; cases e
  · rw [if_neg q] at e
    cases e
    refine ⟨⟨fun k hk => ?_, h.2⟩, Nat.le_refl _⟩
    have hk : k < x.1 := hk
    show va_up (va_up x.2.1 (x.1 - 2) (x.2.1 (x.1 - 1))) (x.1 - 1) (x.2.1 (x.1 - 2)) k = 1 ∨ va_up (va_up x.2.1 (x.1 - 2) (x.2.1 (x.1 - 1))) (x.1 - 1) (x.2.1 (x.1 - 2)) k = 2
    by_cases q1 : k = x.1 - 1
    · rw [q1, va_up_self]; exact h.1 _ (by omega)
    · rw [va_up_ne _ _ q1]
      by_cases q2 : k = x.1 - 2
      · rw [q2, va_up_self]; exact h.1 _ (by omega)
      · rw [va_up_ne _ _ q2]; exact h.1 k hk
theorem bind_s {f : aj_S → Option aj_S} {o : Option aj_S} {y : aj_S} (h : o.bind f = some y) : ∃ z, o = some z ∧ f z = some y := by
  cases o with
  | none => cases h
  | some z => exact ⟨z, rfl, h⟩
theorem aj_has_s {k t : Nat} {x z : aj_S} (h : aj_has k t x = some z) : x.2.2 k = t ∧ x = z := by
  unfold aj_has at h
  by_cases q : x.2.2 k = t
  · rw [if_pos q] at h; exact ⟨q, Option.some.inj h⟩
  · rw [if_neg q] at h; cases h
theorem o12 (o : Nat) : (if o = 1 then 1 else 2) = 1 ∨ (if o = 1 then 1 else 2) = 2 := by split <;> simp
theorem puts2 (o : Nat) : aj_puts o ≤ 2 := by
  unfold aj_puts
  split
  · decide
  · split <;> decide
theorem wt_do {P : aj_P} {m o : Nat} {v : Int32} {x y : aj_S} (hw : wfP P) (h : wt x) (e : aj_do P m o v x = some y) : wt y ∧ y.1 ≤ x.1 + 1 := by
  unfold aj_do at e
  by_cases h1 : o = 1 ∨ o = 3
  · rw [if_pos h1] at e
    by_cases hv : v < 0 ∨ P.1 m 4 ≤ v.toNatClampNeg
    · rw [if_pos hv] at e; cases e
    · rw [if_neg hv] at e
      obtain ⟨z, e1, e2⟩ := bind_s e
      obtain ⟨-, rfl⟩ := aj_has_s e1
      exact wt_push (o12 o) h e2
  rw [if_neg h1] at e
  by_cases h2 : o = 2 ∨ o = 4
  · rw [if_pos h2] at e
    by_cases hv : v < 0 ∨ P.1 m 4 ≤ v.toNatClampNeg
    · rw [if_pos hv] at e; cases e
    · rw [if_neg hv] at e
      obtain ⟨z, e1, e2⟩ := bind_s e
      have q := wt_set (by split <;> decide) (wt_pop h e1) e2
      obtain ⟨-, -, e3⟩ := aj_pop_s e1
      refine ⟨q.1, ?_⟩
      have := q.2
      rw [e3] at this
      have : y.1 ≤ x.1 - 1 := this
      omega
  rw [if_neg h2] at e
  by_cases h3 : o = 20
  · rw [if_pos h3] at e
    unfold aj_dup at e
    by_cases q : x.1 = 0
    · rw [if_pos q] at e; cases e
    · rw [if_neg q] at e; exact wt_push (h.1 _ (by omega)) h e
  rw [if_neg h3] at e
  by_cases h4 : o = 21
  · rw [if_pos h4] at e
    have q := wt_pop h e
    obtain ⟨-, -, e3⟩ := aj_pop_s e
    refine ⟨q, ?_⟩
    rw [e3]
    show x.1 - 1 ≤ x.1 + 1
    omega
  rw [if_neg h4] at e
  by_cases h5 : o = 22
  · rw [if_pos h5] at e
    have q := wt_swap h e
    exact ⟨q.1, by have := q.2; omega⟩
  rw [if_neg h5] at e
  by_cases h6 : o = 23
  · rw [if_pos h6] at e
    by_cases hv : v < 0 ∨ 8 ≤ v.toNatClampNeg
    · rw [if_pos hv] at e; cases e
    · rw [if_neg hv] at e
      by_cases hm : P.1 v.toNatClampNeg 0 = 1
      · rw [if_pos hm] at e
        obtain ⟨z, e1, e2⟩ := bind_s e
        obtain ⟨q1, q2⟩ := wt_pops _ h e1
        have q := wt_put (hw v.toNatClampNeg (by omega)).2.2.2.1 q1 e2
        exact ⟨q.1, by have := q.2; omega⟩
      · rw [if_neg hm] at e; cases e
  rw [if_neg h6] at e
  by_cases h7 : o = 24
  · rw [if_pos h7] at e
    obtain ⟨z, e1, e2⟩ := bind_s e
    unfold aj_nil at e2
    split at e2
    · next q0 =>
      cases e2
      refine ⟨?_, by omega⟩
      by_cases q : P.1 m 3 = 0
      · rw [if_pos q] at e1; cases e1; exact h
      · rw [if_neg q] at e1; exact wt_pop h e1
    · cases e2
  rw [if_neg h7] at e
  obtain ⟨z, e1, e2⟩ := bind_s e
  obtain ⟨q1, q2⟩ := wt_pops _ h e1
  have q := wt_put (puts2 o) q1 e2
  exact ⟨q.1, by have := q.2; omega⟩
theorem wt_ef {P : aj_P} {m o : Nat} {v : Int32} {x y : aj_S} (hw : wfP P) (hm : m < 8) (h : wt x) (e : aj_ef P m o v x = some y) : wt y ∧ y.1 ≤ 15 := by
  obtain ⟨z, e1, e2⟩ := bind_s e
  unfold aj_lim at e2
  split at e2
  · next q =>
    cases e2
    exact ⟨(wt_do hw h e1).1, Nat.le_trans q (hw m hm).2.2.2.2.2.2.1⟩
  · cases e2
theorem wt_in {P : aj_P} {m : Nat} : wt (aj_in P m) := by
  refine ⟨fun k hk => absurd hk (Nat.not_lt_zero _), fun k _ => ?_⟩
  show (if P.1 m 1 ≤ k then 0 else if (P.1 m 2).testBit k = true then 2 else 1) ≤ 2
  split
  · decide
  · split <;> decide
