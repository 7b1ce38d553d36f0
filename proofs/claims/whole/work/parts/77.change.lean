/-! the class's shape: what its methods do to it -/
def cE (x : aj_S) (h s a b : Int32) : Prop := h = nI x.1 ∧ bs x.1 (fun k => decide (x.2.1 k = 2)) s ∧ bs 10 (fun k => decide (x.2.2 k = 1)) a ∧ bs 10 (fun k => decide (x.2.2 k = 2)) b
/-- the shape holds x -/
def cN (x : aj_S) (I : SI) : Prop := cE x (I 5) (I 6) (I 7) (I 8)
/-- outside the shape nothing has changed -/
def kS (I I' : SI) : Prop := ∀ i, i < 5 ∨ 8 < i → I' i = I i
theorem kS_tr {I I1 I2 : SI} (h : kS I I1) (g : kS I1 I2) : kS I I2 := fun i hi => (g i hi).trans (h i hi)
theorem kS_rf {I : SI} : kS I I := fun _ _ => rfl
theorem y1 {A B : Prop} (b : B) : ((1 : Int32) = 0 → A) ∧ (¬ (1 : Int32) = 0 → B) := ⟨fun w => absurd w (by decide), fun _ => b⟩
theorem y0 {A B : Prop} (a : A) : ((0 : Int32) = 0 → A) ∧ (¬ (0 : Int32) = 0 → B) := ⟨fun _ => a, fun w => absurd rfl w⟩
theorem z1 {A B : Prop} (b : B) : (¬ (1 : Int32) = 0 → B) ∧ ((1 : Int32) = 0 → A) := ⟨fun _ => b, fun w => absurd w (by decide)⟩
theorem z0 {A B : Prop} (a : A) : (¬ (0 : Int32) = 0 → B) ∧ ((0 : Int32) = 0 → A) := ⟨fun w => absurd rfl w, fun _ => a⟩
theorem va_uu {α : Type} (f : Nat → α) (k : Nat) (v w : α) : va_up (va_up f k v) k w = va_up f k w := by
  funext j
  by_cases q : j = k
  · rw [q, va_up_self, va_up_self]
  · rw [va_up_ne _ _ q, va_up_ne _ _ q, va_up_ne _ _ q]
theorem vin_b {v : Int32} {n : Nat} (hn : n < 2 ^ 31) : vp_in v n ↔ ¬ v < 0 ∧ v < nI n := by
  constructor
  · intro h
    obtain ⟨k, hk, rfl⟩ := vp_in_of h hn
    exact ⟨nI_pos (by omega), nI_lt hk hn⟩
  · intro h
    obtain ⟨k, hk, rfl⟩ := in_nI rfl hn h
    exact vp_in_nI hk hn
theorem nI_p1 {n : Nat} (h : 0 < n) : nI n - 1 = nI (n - 1) := nI_sub n 1 h
section SH
variable {P : aj_P} {m : Nat} {x : aj_S} {I : SI} {F : SF} {Post : Int32 → SI → SF → Prop}
theorem ct_take {n b : Nat} {c : Int32} (he : cN x I) (hx : x.1 ≤ 16) (hw : wt x) (hn : n ≤ 16) (hc : bs n b.testBit c) (h0 : aj_pops (aj_args b n) x = none → Post 0 I F) (h1 : ∀ I', kS I I' → aj_pops (aj_args b n) x = some (x.1 - n, x.2) → cN (x.1 - n, x.2) I' → Post 1 I' F) : wp_Sh_take (nI n) c I F Post := by
  obtain ⟨e1, e2, e3, e4⟩ := he
  unfold wp_Sh_take
  rw [e1]
  by_cases q : x.1 < n
  · have hz : aj_pops (aj_args b n) x = none := by
      cases e : aj_pops (aj_args b n) x with
      | none => rfl
      | some y => exact absurd (aj_args_s n e).1 (by omega)
    exact ⟨fun _ => h0 hz, fun z => absurd ((nI_ltI (by omega) (by omega)).mpr q) z⟩
  · rw [nI_sub _ _ (by omega)]
    have hs := bs_shr e2 (show x.1 - n ≤ x.1 by omega) (by omega)
    rw [show x.1 - (x.1 - n) = n by omega] at hs
    have hq := bs_eq hs hc (by omega)
    refine ⟨fun z => absurd ((nI_ltI (by omega) (by omega)).mp z) q, fun _ => ⟨fun z => ?_, fun z => ?_⟩⟩
    · have g := hq.mp z
      refine h1 _ ?_ (aj_args_y n (by omega) (fun i hi => ?_)) ⟨rfl, bs_mask e2 (show x.1 - n ≤ x.1 by omega) (by omega), e3, e4⟩
      · intro i hi
        rw [va_up_ne _ _ (by omega), va_up_ne _ _ (by omega)]
      · have g : decide (x.2.1 (x.1 - n + i) = 2) = b.testBit i := g i hi
        rcases hw.1 (x.1 - n + i) (by omega) with w | w
        · rw [w] at g
          rw [w, ← g]; rfl
        · rw [w] at g
          rw [w, ← g]; rfl
    · refine h0 ?_
      cases e : aj_pops (aj_args b n) x with
      | none => rfl
      | some y =>
        refine absurd (hq.mpr (fun i hi => ?_)) z
        have := (aj_args_s n e).2.1 i hi
        show decide (x.2.1 (x.1 - n + i) = 2) = b.testBit i
        rw [this]
        cases b.testBit i <;> rfl
theorem ct_put {t : Nat} (ht : t ≤ 2) (he : cN x I) (hx : x.1 ≤ 16) (h1 : ∀ I' y, kS I I' → aj_put t x = some y → cN y I' → Post 1 I' F) : wp_Sh_put (nI t) I F Post := by
  obtain ⟨e1, e2, e3, e4⟩ := he
  unfold wp_Sh_put wp_Sh_put_20
  have e5 : I 5 + 1 = nI (x.1 + 1) := by rw [e1, nI_1]
  rcases (show t = 0 ∨ t = 1 ∨ t = 2 by omega) with rfl | rfl | rfl
  · exact ⟨fun _ => ⟨fun _ => h1 I x kS_rf rfl ⟨e1, e2, e3, e4⟩, fun z => absurd rfl z⟩, fun z => absurd z (by decide)⟩
  · refine ⟨fun _ => ⟨fun z => absurd z (by decide), fun _ => h1 _ (x.1 + 1, va_up x.2.1 x.1 1, x.2.2) (fun i hi => va_up_ne _ _ (by omega)) rfl ⟨e5, ?_, e3, e4⟩⟩, fun z => absurd z (by decide)⟩
    exact bs_cg (bs_put0 e2) (fun i _ => (dec_up x.2.1 x.1 1 2 i).symm)
  · refine ⟨fun z => absurd rfl z, fun _ => ⟨fun z => absurd z (by decide), fun _ => h1 _ (x.1 + 1, va_up x.2.1 x.1 2, x.2.2) (fun i hi => by rw [va_up_ne _ _ (by omega), va_up_ne _ _ (by omega)]) rfl ⟨e5, ?_, e3, e4⟩⟩⟩
    show bs (x.1 + 1) (fun k => decide (va_up x.2.1 x.1 2 k = 2)) (I 6 ||| ((1 : Int32) <<< (I 5 &&& 31)))
    rw [e1]
    exact bs_cg (bs_put e2 (by omega)) (fun i _ => (dec_up x.2.1 x.1 2 2 i).symm)
theorem ct_set {k t : Nat} (hk : k < 10) (ht : t = 1 ∨ t = 2) (he : cN x I) (h1 : ∀ I', kS I I' → cN (x.1, x.2.1, va_up x.2.2 k t) I' → Post 1 I' F) : wp_Sh_setLocal (nI k) (nI t) I F Post := by
  obtain ⟨e1, e2, e3, e4⟩ := he
  have c3 := bs_clr e3 (show k < 32 by omega)
  have c4 := bs_clr e4 (show k < 32 by omega)
  have s3 := bs_set c3 hk (by decide)
  have s4 := bs_set c4 hk (by decide)
  rw [va_uu] at s3 s4
  unfold wp_Sh_setLocal
  rcases ht with rfl | rfl
  · exact ⟨fun z => absurd rfl z, fun _ => h1 _ (fun i hi => by rw [va_up_ne _ _ (by omega), va_up_ne _ _ (by omega), va_up_ne _ _ (by omega)]) ⟨e1, e2, bs_cg s3 (fun i _ => (dec_up x.2.2 k 1 1 i).symm), bs_cg c4 (fun i _ => (dec_up x.2.2 k 1 2 i).symm)⟩⟩
  · exact ⟨fun _ => h1 _ (fun i hi => by rw [va_up_ne _ _ (by omega), va_up_ne _ _ (by omega), va_up_ne _ _ (by omega)]) ⟨e1, e2, bs_cg c3 (fun i _ => (dec_up x.2.2 k 2 1 i).symm), bs_cg s4 (fun i _ => (dec_up x.2.2 k 2 2 i).symm)⟩, fun z => absurd z (by decide)⟩
theorem ct_has1 {k : Nat} (hk : k < 10) (he : cN x I) (h : Post (bi (x.2.2 k = 1)) I F) : wp_Sh_hasInLocal (nI k) 1 I F Post := by
  obtain ⟨e1, e2, e3, e4⟩ := he
  unfold wp_Sh_hasInLocal wp_Sh_hasInLocal_16
  have b3 := bs_bit e3 (show k < 32 by omega)
  refine ⟨fun y => absurd rfl y, fun _ => ⟨fun z => ?_, fun z => ?_⟩⟩
  · rw [bi_n (fun q => b3.mp z ⟨hk, decide_eq_true q⟩)] at h; exact h
  · have q : x.2.2 k = 1 := by
      by_cases q : x.2.2 k = 1
      · exact q
      · exact absurd (b3.mpr (fun w => q (of_decide_eq_true w.2))) z
    rw [bi_y q] at h; exact h
theorem ct_has2 {k : Nat} (hk : k < 10) (he : cN x I) (h : Post (bi (x.2.2 k = 2)) I F) : wp_Sh_hasInLocal (nI k) 2 I F Post := by
  obtain ⟨e1, e2, e3, e4⟩ := he
  unfold wp_Sh_hasInLocal wp_Sh_hasInLocal_16
  have b3 := bs_bit e4 (show k < 32 by omega)
  refine ⟨fun _ => ⟨fun z => ?_, fun z => ?_⟩, fun y => absurd y (by decide)⟩
  · rw [bi_n (fun q => b3.mp z ⟨hk, decide_eq_true q⟩)] at h; exact h
  · have q : x.2.2 k = 2 := by
      by_cases q : x.2.2 k = 2
      · exact q
      · exact absurd (b3.mpr (fun w => q (of_decide_eq_true w.2))) z
    rw [bi_y q] at h; exact h
theorem ct_upper (h : 0 < x.1) (hx : x.1 ≤ 16) (hw : wt x) (he : cN x I) (hP : Post (nI (x.2.1 (x.1 - 1))) I F) : wp_Sh_upperType I F Post := by
  obtain ⟨e1, e2, e3, e4⟩ := he
  unfold wp_Sh_upperType
  have hs := bs_shr e2 (show x.1 - 1 ≤ x.1 by omega) (by omega)
  rw [show x.1 - (x.1 - 1) = 1 by omega] at hs
  have hq := bs_eq hs (bs_0 (n := 1)) (by decide)
  rw [e1, nI_p1 h]
  have n0 : ¬ nI x.1 ≤ 0 := nI_nle h (by omega)
  refine ⟨fun y => absurd y n0, fun _ => ⟨fun z => ?_, fun z => ?_⟩⟩
  · have g : decide (x.2.1 (x.1 - 1) = 2) = false := hq.mp z 0 (by decide)
    rcases hw.1 (x.1 - 1) (by omega) with q | q
    · rw [q] at hP; exact hP
    · rw [q] at g; exact absurd g (by decide)
  · rcases hw.1 (x.1 - 1) (by omega) with q | q
    · refine absurd (hq.mpr (fun i hi => ?_)) z
      rw [show i = 0 by omega]
      show decide (x.2.1 (x.1 - 1) = 2) = false
      rw [q]; rfl
    · rw [q] at hP; exact hP
theorem ct_any (hx : x.1 ≤ 16) (hw : wt x) (he : cN x I) (h0 : x.1 = 0 → Post 0 I F) (h1 : ∀ I', kS I I' → ¬ x.1 = 0 → cN (x.1 - 1, x.2) I' → Post 1 I' F) : wp_Sh_takeAny I F Post := by
  have he0 := he
  obtain ⟨e1, e2, e3, e4⟩ := he
  unfold wp_Sh_takeAny
  rw [e1]
  by_cases q : x.1 = 0
  · exact ⟨fun _ => h0 q, fun z => absurd (by rw [q]; decide) z⟩
  · refine ⟨fun z => absurd z (nI_nle (by omega) (by omega)), fun _ => ⟨_, ?_, fun _ _ _ q => q⟩⟩
    have hs := bs_shr e2 (show x.1 - 1 ≤ x.1 by omega) (by omega)
    rw [show x.1 - (x.1 - 1) = 1 by omega] at hs
    rw [nI_p1 (by omega)]
    have ht : x.2.1 (x.1 - 1) = if Nat.testBit (if x.2.1 (x.1 - 1) = 2 then 1 else 0) 0 = true then 2 else 1 := by
      rcases hw.1 (x.1 - 1) (by omega) with w | w <;> rw [w] <;> rfl
    refine ct_take (n := 1) (b := if x.2.1 (x.1 - 1) = 2 then 1 else 0) he0 hx hw (by decide) (bs_cg hs (fun i hi => ?_)) (fun z => ?_) (fun I' k _ y => ?_)
    · rw [show i = 0 by omega]
      show decide (x.2.1 (x.1 - 1) = 2) = _
      by_cases w : x.2.1 (x.1 - 1) = 2
      · rw [if_pos w, decide_eq_true w]; rfl
      · rw [if_neg w, decide_eq_false w]; rfl
    · exfalso
      rw [aj_args_1 x ht, aj_pop_y q (Or.inr rfl)] at z
      cases z
    · exact y1 (h1 I' k q y)
theorem ct_turn (hx : x.1 ≤ 16) (he : cN x I) (h0 : x.1 < 2 → Post 0 I F) (h1 : ∀ I', kS I I' → ¬ x.1 < 2 → cN (x.1, va_up (va_up x.2.1 (x.1 - 2) (x.2.1 (x.1 - 1))) (x.1 - 1) (x.2.1 (x.1 - 2)), x.2.2) I' → Post 1 I' F) : wp_Sh_turn I F Post := by
  obtain ⟨e1, e2, e3, e4⟩ := he
  unfold wp_Sh_turn
  rw [e1]
  have h2 : 2 ≤ nI x.1 ↔ 2 ≤ x.1 := nI_leI (by decide) (by omega)
  by_cases q : x.1 < 2
  · exact ⟨fun z => absurd (h2.mp z) (by omega), fun _ => h0 q⟩
  · obtain ⟨n, hn⟩ : ∃ n, x.1 = n + 2 := ⟨x.1 - 2, by omega⟩
    refine ⟨fun _ => ?_, fun z => absurd (h2.mpr (by omega)) z⟩
    have s2 : nI x.1 - 2 = nI n := by
      have := nI_sub x.1 2 (by omega)
      rw [show x.1 - 2 = n by omega] at this
      exact this
    rw [nI_p1 (by omega), s2, show x.1 - 1 = n + 1 by omega]
    intro x2 h2 x3 h3 x4 h4
    subst h2 h3 h4
    refine h1 _ (fun i hi => va_up_ne _ _ (by omega)) q ⟨e1, ?_, e3, e4⟩
    show bs x.1 (fun k => decide (va_up (va_up x.2.1 (x.1 - 2) (x.2.1 (x.1 - 1))) (x.1 - 1) (x.2.1 (x.1 - 2)) k = 2)) _
    rw [show x.1 - 2 = n by omega, show x.1 - 1 = n + 1 by omega, hn]
    rw [hn] at e2
    refine bs_cg (bs_turn e2 (by omega)) (fun i _ => ?_)
    rw [dec_up, show (fun k => decide (va_up x.2.1 n (x.2.1 (n + 1)) k = 2)) = va_up (fun k => decide (x.2.1 k = 2)) n (decide (x.2.1 (n + 1) = 2)) from funext (dec_up _ _ _ _)]
end SH
/-! the orders' tables -/
def or_ev (o n b t : Nat) : Prop := (∀ I F Post, wp_Or_taken (nI o) I F Post ↔ Post (nI n) I F) ∧ (∀ I F Post, wp_Or_arraysTaken (nI o) I F Post ↔ Post (nI b) I F) ∧ (∀ I F Post, wp_Or_puts (nI o) I F Post ↔ Post (nI t) I F) ∧ aj_takes o = aj_args b n ∧ aj_puts o = t ∧ b < 2 ^ n ∧ n ≤ 3
theorem or_0 : or_ev 0 0 0 1 := by
  refine ⟨fun I F Post => ?_, fun I F Post => ?_, fun I F Post => ?_, rfl, rfl, by decide, by decide⟩
  · show wp_Or_taken 0 I F Post ↔ Post 0 I F
    simp [wp_Or_taken, wp_Or_isArithmetic, ex3]
  · show wp_Or_arraysTaken 0 I F Post ↔ Post 0 I F
    simp [wp_Or_arraysTaken]
  · show wp_Or_puts 0 I F Post ↔ Post 1 I F
    simp [wp_Or_puts, wp_Or_isArithmetic, ex3]
theorem or_5 : or_ev 5 2 0 1 := by
  refine ⟨fun I F Post => ?_, fun I F Post => ?_, fun I F Post => ?_, rfl, rfl, by decide, by decide⟩
  · show wp_Or_taken 5 I F Post ↔ Post 2 I F
    simp [wp_Or_taken, wp_Or_isArithmetic, ex3]
  · show wp_Or_arraysTaken 5 I F Post ↔ Post 0 I F
    simp [wp_Or_arraysTaken]
  · show wp_Or_puts 5 I F Post ↔ Post 1 I F
    simp [wp_Or_puts, wp_Or_isArithmetic, ex3]
theorem or_6 : or_ev 6 2 0 1 := by
  refine ⟨fun I F Post => ?_, fun I F Post => ?_, fun I F Post => ?_, rfl, rfl, by decide, by decide⟩
  · show wp_Or_taken 6 I F Post ↔ Post 2 I F
    simp [wp_Or_taken, wp_Or_isArithmetic, ex3]
  · show wp_Or_arraysTaken 6 I F Post ↔ Post 0 I F
    simp [wp_Or_arraysTaken]
  · show wp_Or_puts 6 I F Post ↔ Post 1 I F
    simp [wp_Or_puts, wp_Or_isArithmetic, ex3]
theorem or_7 : or_ev 7 2 0 1 := by
  refine ⟨fun I F Post => ?_, fun I F Post => ?_, fun I F Post => ?_, rfl, rfl, by decide, by decide⟩
  · show wp_Or_taken 7 I F Post ↔ Post 2 I F
    simp [wp_Or_taken, wp_Or_isArithmetic, ex3]
  · show wp_Or_arraysTaken 7 I F Post ↔ Post 0 I F
    simp [wp_Or_arraysTaken]
  · show wp_Or_puts 7 I F Post ↔ Post 1 I F
    simp [wp_Or_puts, wp_Or_isArithmetic, ex3]
theorem or_8 : or_ev 8 2 0 1 := by
  refine ⟨fun I F Post => ?_, fun I F Post => ?_, fun I F Post => ?_, rfl, rfl, by decide, by decide⟩
  · show wp_Or_taken 8 I F Post ↔ Post 2 I F
    simp [wp_Or_taken, wp_Or_isArithmetic, ex3]
  · show wp_Or_arraysTaken 8 I F Post ↔ Post 0 I F
    simp [wp_Or_arraysTaken]
  · show wp_Or_puts 8 I F Post ↔ Post 1 I F
    simp [wp_Or_puts, wp_Or_isArithmetic, ex3]
theorem or_9 : or_ev 9 2 0 1 := by
  refine ⟨fun I F Post => ?_, fun I F Post => ?_, fun I F Post => ?_, rfl, rfl, by decide, by decide⟩
  · show wp_Or_taken 9 I F Post ↔ Post 2 I F
    simp [wp_Or_taken, wp_Or_isArithmetic, ex3]
  · show wp_Or_arraysTaken 9 I F Post ↔ Post 0 I F
    simp [wp_Or_arraysTaken]
  · show wp_Or_puts 9 I F Post ↔ Post 1 I F
    simp [wp_Or_puts, wp_Or_isArithmetic, ex3]
theorem or_10 : or_ev 10 1 0 2 := by
  refine ⟨fun I F Post => ?_, fun I F Post => ?_, fun I F Post => ?_, rfl, rfl, by decide, by decide⟩
  · show wp_Or_taken 10 I F Post ↔ Post 1 I F
    simp [wp_Or_taken, wp_Or_isArithmetic, ex3]
  · show wp_Or_arraysTaken 10 I F Post ↔ Post 0 I F
    simp [wp_Or_arraysTaken]
  · show wp_Or_puts 10 I F Post ↔ Post 2 I F
    simp [wp_Or_puts, wp_Or_isArithmetic, ex3]
theorem or_11 : or_ev 11 1 1 1 := by
  refine ⟨fun I F Post => ?_, fun I F Post => ?_, fun I F Post => ?_, rfl, rfl, by decide, by decide⟩
  · show wp_Or_taken 11 I F Post ↔ Post 1 I F
    simp [wp_Or_taken, wp_Or_isArithmetic, ex3]
  · show wp_Or_arraysTaken 11 I F Post ↔ Post 1 I F
    simp [wp_Or_arraysTaken]
  · show wp_Or_puts 11 I F Post ↔ Post 1 I F
    simp [wp_Or_puts, wp_Or_isArithmetic, ex3]
theorem or_12 : or_ev 12 2 1 1 := by
  refine ⟨fun I F Post => ?_, fun I F Post => ?_, fun I F Post => ?_, rfl, rfl, by decide, by decide⟩
  · show wp_Or_taken 12 I F Post ↔ Post 2 I F
    simp [wp_Or_taken, wp_Or_isArithmetic, ex3]
  · show wp_Or_arraysTaken 12 I F Post ↔ Post 1 I F
    simp [wp_Or_arraysTaken]
  · show wp_Or_puts 12 I F Post ↔ Post 1 I F
    simp [wp_Or_puts, wp_Or_isArithmetic, ex3]
theorem or_13 : or_ev 13 3 1 0 := by
  refine ⟨fun I F Post => ?_, fun I F Post => ?_, fun I F Post => ?_, rfl, rfl, by decide, by decide⟩
  · show wp_Or_taken 13 I F Post ↔ Post 3 I F
    simp [wp_Or_taken, wp_Or_isArithmetic, ex3]
  · show wp_Or_arraysTaken 13 I F Post ↔ Post 1 I F
    simp [wp_Or_arraysTaken]
  · show wp_Or_puts 13 I F Post ↔ Post 0 I F
    simp [wp_Or_puts, wp_Or_isArithmetic, ex3]
theorem or_14 : or_ev 14 0 0 0 := by
  refine ⟨fun I F Post => ?_, fun I F Post => ?_, fun I F Post => ?_, rfl, rfl, by decide, by decide⟩
  · show wp_Or_taken 14 I F Post ↔ Post 0 I F
    simp [wp_Or_taken, wp_Or_isArithmetic, ex3]
  · show wp_Or_arraysTaken 14 I F Post ↔ Post 0 I F
    simp [wp_Or_arraysTaken]
  · show wp_Or_puts 14 I F Post ↔ Post 0 I F
    simp [wp_Or_puts, wp_Or_isArithmetic, ex3]
theorem or_15 : or_ev 15 1 0 0 := by
  refine ⟨fun I F Post => ?_, fun I F Post => ?_, fun I F Post => ?_, rfl, rfl, by decide, by decide⟩
  · show wp_Or_taken 15 I F Post ↔ Post 1 I F
    simp [wp_Or_taken, wp_Or_isArithmetic, ex3]
  · show wp_Or_arraysTaken 15 I F Post ↔ Post 0 I F
    simp [wp_Or_arraysTaken]
  · show wp_Or_puts 15 I F Post ↔ Post 0 I F
    simp [wp_Or_puts, wp_Or_isArithmetic, ex3]
theorem or_16 : or_ev 16 2 0 0 := by
  refine ⟨fun I F Post => ?_, fun I F Post => ?_, fun I F Post => ?_, rfl, rfl, by decide, by decide⟩
  · show wp_Or_taken 16 I F Post ↔ Post 2 I F
    simp [wp_Or_taken, wp_Or_isArithmetic, ex3]
  · show wp_Or_arraysTaken 16 I F Post ↔ Post 0 I F
    simp [wp_Or_arraysTaken]
  · show wp_Or_puts 16 I F Post ↔ Post 0 I F
    simp [wp_Or_puts, wp_Or_isArithmetic, ex3]
theorem or_17 : or_ev 17 2 0 0 := by
  refine ⟨fun I F Post => ?_, fun I F Post => ?_, fun I F Post => ?_, rfl, rfl, by decide, by decide⟩
  · show wp_Or_taken 17 I F Post ↔ Post 2 I F
    simp [wp_Or_taken, wp_Or_isArithmetic, ex3]
  · show wp_Or_arraysTaken 17 I F Post ↔ Post 0 I F
    simp [wp_Or_arraysTaken]
  · show wp_Or_puts 17 I F Post ↔ Post 0 I F
    simp [wp_Or_puts, wp_Or_isArithmetic, ex3]
theorem or_18 : or_ev 18 0 0 2 := by
  refine ⟨fun I F Post => ?_, fun I F Post => ?_, fun I F Post => ?_, rfl, rfl, by decide, by decide⟩
  · show wp_Or_taken 18 I F Post ↔ Post 0 I F
    simp [wp_Or_taken, wp_Or_isArithmetic, ex3]
  · show wp_Or_arraysTaken 18 I F Post ↔ Post 0 I F
    simp [wp_Or_arraysTaken]
  · show wp_Or_puts 18 I F Post ↔ Post 2 I F
    simp [wp_Or_puts, wp_Or_isArithmetic, ex3]
theorem or_19 : or_ev 19 1 1 0 := by
  refine ⟨fun I F Post => ?_, fun I F Post => ?_, fun I F Post => ?_, rfl, rfl, by decide, by decide⟩
  · show wp_Or_taken 19 I F Post ↔ Post 1 I F
    simp [wp_Or_taken, wp_Or_isArithmetic, ex3]
  · show wp_Or_arraysTaken 19 I F Post ↔ Post 1 I F
    simp [wp_Or_arraysTaken]
  · show wp_Or_puts 19 I F Post ↔ Post 0 I F
    simp [wp_Or_puts, wp_Or_isArithmetic, ex3]
theorem or_25 : or_ev 25 1 0 0 := by
  refine ⟨fun I F Post => ?_, fun I F Post => ?_, fun I F Post => ?_, rfl, rfl, by decide, by decide⟩
  · show wp_Or_taken 25 I F Post ↔ Post 1 I F
    simp [wp_Or_taken, wp_Or_isArithmetic, ex3]
  · show wp_Or_arraysTaken 25 I F Post ↔ Post 0 I F
    simp [wp_Or_arraysTaken]
  · show wp_Or_puts 25 I F Post ↔ Post 0 I F
    simp [wp_Or_puts, wp_Or_isArithmetic, ex3]
/-- what the number of an order names is there -/
def aj_ok (P : aj_P) (m o : Nat) (v : Int32) : Prop := (1 ≤ o ∧ o ≤ 4 → vp_in v (P.1 m 4)) ∧ (aj_jmp o = true → vp_in v (P.1 m 6)) ∧ (o = 23 → vp_in v 8 ∧ P.1 v.toNatClampNeg 0 = 1)
/-- what the class's change does: as aj_do, but RETURN doesn't look whether anything is left -/
def aj_ch (P : aj_P) (m o : Nat) (v : Int32) (x : aj_S) : Option aj_S := if o = 24 then (if P.1 m 3 = 0 then some x else aj_pop (P.1 m 3) x) else aj_do P m o v x
theorem ev_nl {o : Nat} {I : SI} {F : SF} {Post : Int32 → SI → SF → Prop} (ho : o ≤ 25) : wp_Or_namesLocal (nI o) I F Post ↔ Post (bi (1 ≤ o ∧ o ≤ 4)) I F := by
  unfold wp_Or_namesLocal
  have a : nI o < 1 ↔ o < 1 := nI_ltI (by omega) (by decide)
  have b : 4 < nI o ↔ 4 < o := nI_ltI (by decide) (by omega)
  rw [a, b]
  by_cases q : o < 1
  · rw [bi_n (by omega)]
    exact ⟨fun w => w.1 q, fun w => ⟨fun _ => w, fun z => absurd q z⟩⟩
  · by_cases q2 : 4 < o
    · rw [bi_n (by omega)]
      exact ⟨fun w => (w.2 q).1 q2, fun w => ⟨fun _ => w, fun _ => ⟨fun _ => w, fun z => absurd q2 z⟩⟩⟩
    · rw [bi_y (by omega)]
      exact ⟨fun w => (w.2 q).2 q2, fun w => ⟨fun z => absurd z q, fun _ => ⟨fun z => absurd z q2, fun _ => w⟩⟩⟩
theorem jmp_iff {o : Nat} : aj_jmp o = true ↔ (14 ≤ o ∧ o ≤ 17) ∨ o = 19 := by
  unfold aj_jmp
  simp
theorem ev_np {o : Nat} {I : SI} {F : SF} {Post : Int32 → SI → SF → Prop} (ho : o ≤ 25) : wp_Or_namesPlace (nI o) I F Post ↔ Post (bi (aj_jmp o = true)) I F := by
  unfold wp_Or_namesPlace wp_Or_namesPlace_12 wp_Or_namesPlace_18
  have a : nI o < 14 ↔ o < 14 := nI_ltI (by omega) (by decide)
  have b : nI o ≤ 17 ↔ o ≤ 17 := nI_leI (by omega) (by decide)
  have c : nI o = 19 ↔ o = 19 := nI_eq (by omega) (by decide)
  rw [a, b, c, show bi (aj_jmp o = true) = bi ((14 ≤ o ∧ o ≤ 17) ∨ o = 19) by rw [propext jmp_iff]]
  by_cases q : o < 14
  · rw [bi_n (by omega)]
    exact ⟨fun w => (w.1 q).1 (by omega), fun w => ⟨fun _ => ⟨fun _ => w, fun z => absurd z (by omega)⟩, fun z => absurd q z⟩⟩
  · by_cases q2 : o ≤ 17
    · rw [bi_y (by omega)]
      exact ⟨fun w => (w.2 q).1 q2, fun w => ⟨fun z => absurd z q, fun _ => ⟨fun _ => w, fun z => absurd q2 z⟩⟩⟩
    · by_cases q3 : o = 19
      · rw [bi_y (by omega)]
        exact ⟨fun w => ((w.2 q).2 q2).2 q3, fun w => ⟨fun z => absurd z q, fun _ => ⟨fun z => absurd z q2, fun _ => ⟨fun z => absurd q3 z, fun _ => w⟩⟩⟩⟩
      · rw [bi_n (by omega)]
        exact ⟨fun w => ((w.2 q).2 q2).1 q3, fun w => ⟨fun z => absurd z q, fun _ => ⟨fun z => absurd z q2, fun _ => ⟨fun _ => w, fun z => absurd z q3⟩⟩⟩⟩
section CH
variable {P : aj_P} {m o : Nat} {v : Int32} {x : aj_S} {I : SI} {F : SF} {Post : Int32 → SI → SF → Prop}
theorem ct_there (hw : wfP P) (hc : cT P I F) (hm : m < 8) (ho : o ≤ 25) (h : Post (bi (aj_ok P m o v)) I F) : wp_Ju_isThere m (nI o) v I F Post := by
  have hl := (hw m hm).2.2.2.2.2.1
  have hs := s120 hw hm
  unfold wp_Ju_isThere wp_Ju_isThere_53
  simp only [ev_nl ho, ev_np ho, ev_below, ev_has hc hm, ex3, (hc m hm).2.2.2.2.1]
  have c : nI o = 23 ↔ o = 23 := nI_eq (by omega) (by decide)
  refine ⟨fun z => ⟨fun z2 => ⟨fun z3 => ?_, fun z3 => ?_⟩, fun z2 => ⟨bi_bo, ?_⟩⟩, fun z => ⟨bi_bo, ?_⟩⟩
  · rw [bi_y ⟨fun q => absurd q (bi_0.mp z), fun q => absurd q (bi_0.mp z2), fun q => absurd (c.mpr q) z3⟩] at h
    exact h
  · have h23 := c.mp z3
    refine ⟨fun z4 => ?_, fun z4 => ?_⟩
    · rw [bi_n (fun q => bi_0.mp z4 ((vin_b (by decide)).mp (q.2.2 h23).1))] at h
      exact h
    · have hv : vp_in v 8 := (vin_b (by decide)).mpr (bi_1 z4)
      obtain ⟨k, hk, rfl⟩ := vp_in_of hv (by decide)
      have h0 := (hc k hk).1
      rw [cl (show k < 2 ^ 31 by omega)]
      refine ⟨hv, fun z5 => ?_, fun z5 => ?_⟩
      · rw [bi_n (fun q => ?_)] at h
        · exact h
        · have := (q.2.2 h23).2
          rw [cl (show k < 2 ^ 31 by omega)] at this
          rw [h0, this] at z5
          exact absurd z5 n1_ne
      · have hp : P.1 (nI k).toNatClampNeg 0 = 1 := by
          rw [cl (show k < 2 ^ 31 by omega)]
          have h1 := (hw k hk).1
          by_cases q : P.1 k 0 = 1
          · exact q
          · exact absurd (by rw [h0]; exact n1_of h1 q) z5
        have hok : aj_ok P m o (nI k) := ⟨fun q => absurd q (bi_0.mp z), fun q => absurd q (bi_0.mp z2), fun _ => ⟨hv, hp⟩⟩
        rw [bi_y hok] at h
        exact h
  · have hj := bi_1 z2
    have e : aj_ok P m o v ↔ (¬ v < 0 ∧ v < nI (P.1 m 6)) := by
      rw [← vin_b (by omega)]
      exact ⟨fun q => q.2.1 hj, fun q => ⟨fun w => absurd w (bi_0.mp z), fun _ => q, fun w => by rw [w] at hj; exact absurd hj (by decide)⟩⟩
    rw [propext e] at h
    exact h
  · have hj := bi_1 z
    have e : aj_ok P m o v ↔ (¬ v < 0 ∧ v < nI (P.1 m 4)) := by
      rw [← vin_b (by omega)]
      refine ⟨fun q => q.1 hj, fun q => ⟨fun _ => q, fun w => ?_, fun w => by omega⟩⟩
      have := jmp_iff.mp w
      omega
    rw [propext e] at h
    exact h
theorem ct_def {n b t : Nat} (ho : ¬ nI o = 1 ∧ ¬ nI o = 2 ∧ ¬ nI o = 3 ∧ ¬ nI o = 4 ∧ ¬ nI o = 20 ∧ ¬ nI o = 21 ∧ ¬ nI o = 22 ∧ ¬ nI o = 23 ∧ ¬ nI o = 24) (h : or_ev o n b t) (he : cN x I) (hx : x.1 ≤ 15) (hwt : wt x) (h0 : (aj_pops (aj_takes o) x).bind (aj_put (aj_puts o)) = none → ∀ I', kS I I' → Post 0 I' F) (h1 : ∀ I' y, kS I I' → (aj_pops (aj_takes o) x).bind (aj_put (aj_puts o)) = some y → cN y I' → Post 1 I' F) : wp_Ju_change m (nI o) v I F Post := by
  obtain ⟨a1, a2, a3, a4, a5, a6, a7⟩ := h
  have ht := puts2 o
  rw [a5] at ht
  rw [a4, a5] at h0 h1
  unfold wp_Ju_change
  refine ⟨fun z => absurd z ho.1, fun z => absurd z ho.2.1, fun z => absurd z ho.2.2.1, fun z => absurd z ho.2.2.2.1, fun z => absurd z ho.2.2.2.2.1, fun z => absurd z ho.2.2.2.2.2.1, fun z => absurd z ho.2.2.2.2.2.2.1, fun z => absurd z ho.2.2.2.2.2.2.2.1, fun z => absurd z ho.2.2.2.2.2.2.2.2, fun _ => ?_⟩
  simp only [a1, a2, a3, ex3]
  refine ⟨_, ct_take he (by omega) hwt (by omega) (bs_nI a6) ?_ ?_, fun _ _ _ q => q⟩
  · intro z
    exact y0 (h0 (by rw [z]; rfl) I kS_rf)
  · intro I1 k1 z n1
    refine y1 ⟨_, ct_put ht n1 (by show x.1 - n ≤ 16; omega) ?_, fun _ _ _ q => q⟩
    intro I2 y k2 e n2
    exact y1 (h1 I2 y (kS_tr k1 k2) (by rw [z]; exact e) n2)
theorem ach_ld {k t : Nat} (hw : wfP P) (hm : m < 8) (hk : k < P.1 m 4) (ho : o = 1 ∧ t = 1 ∨ o = 3 ∧ t = 2) : aj_ch P m o (nI k) x = (aj_has k t x).bind (aj_push t) := by
  have hl := (hw m hm).2.2.2.2.2.1
  have hv : ¬ (nI k < 0 ∨ P.1 m 4 ≤ (nI k).toNatClampNeg) := vp_in_nI hk (by omega)
  unfold aj_ch aj_do
  rw [if_neg (show ¬ o = 24 by omega), if_pos (show o = 1 ∨ o = 3 by omega), if_neg hv, cl (show k < 2 ^ 31 by omega)]
  rcases ho with ⟨rfl, rfl⟩ | ⟨rfl, rfl⟩ <;> rfl
theorem ach_st {k t : Nat} (hw : wfP P) (hm : m < 8) (hk : k < P.1 m 4) (ho : o = 2 ∧ t = 1 ∨ o = 4 ∧ t = 2) : aj_ch P m o (nI k) x = (aj_pop t x).bind (aj_set k t) := by
  have hl := (hw m hm).2.2.2.2.2.1
  have hv : ¬ (nI k < 0 ∨ P.1 m 4 ≤ (nI k).toNatClampNeg) := vp_in_nI hk (by omega)
  unfold aj_ch aj_do
  rw [if_neg (show ¬ o = 24 by omega), if_neg (show ¬ (o = 1 ∨ o = 3) by omega), if_pos (show o = 2 ∨ o = 4 by omega), if_neg hv, cl (show k < 2 ^ 31 by omega)]
  rcases ho with ⟨rfl, rfl⟩ | ⟨rfl, rfl⟩ <;> rfl
theorem ach_20 : aj_ch P m 20 v x = aj_dup x := rfl
theorem ach_21 : aj_ch P m 21 v x = aj_pop 0 x := rfl
theorem ach_22 : aj_ch P m 22 v x = aj_swap x := rfl
theorem ach_23 {k : Nat} (hk : k < 8) (h : P.1 k 0 = 1) : aj_ch P m 23 (nI k) x = (aj_pops (aj_args (P.1 k 2) (P.1 k 1)) x).bind (aj_put (P.1 k 3)) := by
  have hv : ¬ (nI k < 0 ∨ 8 ≤ (nI k).toNatClampNeg) := vp_in_nI hk (by decide)
  have e : aj_ch P m 23 (nI k) x = if nI k < 0 ∨ 8 ≤ (nI k).toNatClampNeg then none else if P.1 (nI k).toNatClampNeg 0 = 1 then (aj_pops (aj_args (P.1 (nI k).toNatClampNeg 2) (P.1 (nI k).toNatClampNeg 1)) x).bind (aj_put (P.1 (nI k).toNatClampNeg 3)) else none := rfl
  rw [e, if_neg hv, cl (show k < 2 ^ 31 by omega), if_pos h]
theorem ach_24 : aj_ch P m 24 v x = if P.1 m 3 = 0 then some x else aj_pop (P.1 m 3) x := rfl
theorem ach_def (h1 : ¬ (o = 1 ∨ o = 3)) (h2 : ¬ (o = 2 ∨ o = 4)) (h3 : ¬ o = 20) (h4 : ¬ o = 21) (h5 : ¬ o = 22) (h6 : ¬ o = 23) (h7 : ¬ o = 24) : aj_ch P m o v x = (aj_pops (aj_takes o) x).bind (aj_put (aj_puts o)) := by
  unfold aj_ch aj_do
  rw [if_neg h7, if_neg h1, if_neg h2, if_neg h3, if_neg h4, if_neg h5, if_neg h6, if_neg h7]
theorem c_change (hw : wfP P) (hc : cT P I F) (hm : m < 8) (ho : o ≤ 25) (hok : aj_ok P m o v) (he : cN x I) (hx : x.1 ≤ 15) (hwt : wt x) (h0 : aj_ch P m o v x = none → ∀ I', kS I I' → Post 0 I' F) (h1 : ∀ I' y, kS I I' → aj_ch P m o v x = some y → cN y I' → Post 1 I' F) : wp_Ju_change m (nI o) v I F Post := by
  have hl := (hw m hm).2.2.2.2.2.1
  by_cases q1 : o = 1
  · subst q1
    obtain ⟨k, hk, rfl⟩ := vp_in_of (hok.1 (by decide)) (by omega)
    rw [ach_ld (t := 1) hw hm hk (by decide)] at h0 h1
    unfold wp_Ju_change
    refine ⟨fun _ => ?_, fun z => absurd z (by decide), fun z => absurd z (by decide), fun z => absurd z (by decide), fun z => absurd z (by decide), fun z => absurd z (by decide), fun z => absurd z (by decide), fun z => absurd z (by decide), fun z => absurd z (by decide), fun z => absurd z (by decide)⟩
    refine ⟨_, ct_has1 (show k < 10 by omega) he ?_, fun _ _ _ q => q⟩
    by_cases q : x.2.2 k = 1
    · have e : (aj_has k 1 x).bind (aj_push 1) = aj_put 1 x := by unfold aj_has; rw [if_pos q]; rfl
      rw [bi_y q]
      refine y1 ⟨_, ct_put (t := 1) (by decide) he (by omega) ?_, fun _ _ _ q => q⟩
      intro I2 y k2 e2 n2
      exact y1 (h1 I2 y k2 (e.trans e2) n2)
    · rw [bi_n q]
      exact y0 (h0 (by unfold aj_has; rw [if_neg q]; rfl) I kS_rf)
  by_cases q3 : o = 3
  · subst q3
    obtain ⟨k, hk, rfl⟩ := vp_in_of (hok.1 (by decide)) (by omega)
    rw [ach_ld (t := 2) hw hm hk (by decide)] at h0 h1
    unfold wp_Ju_change
    refine ⟨fun z => absurd z (by decide), fun z => absurd z (by decide), fun _ => ?_, fun z => absurd z (by decide), fun z => absurd z (by decide), fun z => absurd z (by decide), fun z => absurd z (by decide), fun z => absurd z (by decide), fun z => absurd z (by decide), fun z => absurd z (by decide)⟩
    refine ⟨_, ct_has2 (show k < 10 by omega) he ?_, fun _ _ _ q => q⟩
    by_cases q : x.2.2 k = 2
    · have e : (aj_has k 2 x).bind (aj_push 2) = aj_put 2 x := by unfold aj_has; rw [if_pos q]; rfl
      rw [bi_y q]
      refine y1 ⟨_, ct_put (t := 2) (by decide) he (by omega) ?_, fun _ _ _ q => q⟩
      intro I2 y k2 e2 n2
      exact y1 (h1 I2 y k2 (e.trans e2) n2)
    · rw [bi_n q]
      exact y0 (h0 (by unfold aj_has; rw [if_neg q]; rfl) I kS_rf)
  by_cases q2 : o = 2
  · subst q2
    obtain ⟨k, hk, rfl⟩ := vp_in_of (hok.1 (by decide)) (by omega)
    rw [ach_st (t := 1) hw hm hk (by decide)] at h0 h1
    have ep := aj_args_1 (t := 1) (b := 0) x rfl
    unfold wp_Ju_change
    refine ⟨fun z => absurd z (by decide), fun _ => ?_, fun z => absurd z (by decide), fun z => absurd z (by decide), fun z => absurd z (by decide), fun z => absurd z (by decide), fun z => absurd z (by decide), fun z => absurd z (by decide), fun z => absurd z (by decide), fun z => absurd z (by decide)⟩
    refine ⟨_, ct_take (n := 1) (b := 0) he (by omega) hwt (by decide) (bs_nI (a := 0) (n := 1) (by decide)) ?_ ?_, fun _ _ _ q => q⟩
    · intro z
      exact y0 (h0 (by rw [← ep, z]; rfl) I kS_rf)
    · intro I1 k1 z n1
      refine y1 ⟨_, ct_set (t := 1) (show k < 10 by omega) (by decide) n1 ?_, fun _ _ _ q => q⟩
      intro I2 k2 n2
      exact y1 (h1 I2 _ (kS_tr k1 k2) (by rw [← ep, z]; rfl) n2)
  by_cases q4 : o = 4
  · subst q4
    obtain ⟨k, hk, rfl⟩ := vp_in_of (hok.1 (by decide)) (by omega)
    rw [ach_st (t := 2) hw hm hk (by decide)] at h0 h1
    have ep := aj_args_1 (t := 2) (b := 1) x rfl
    unfold wp_Ju_change
    refine ⟨fun z => absurd z (by decide), fun z => absurd z (by decide), fun z => absurd z (by decide), fun _ => ?_, fun z => absurd z (by decide), fun z => absurd z (by decide), fun z => absurd z (by decide), fun z => absurd z (by decide), fun z => absurd z (by decide), fun z => absurd z (by decide)⟩
    refine ⟨_, ct_take (n := 1) (b := 1) he (by omega) hwt (by decide) (bs_nI (a := 1) (n := 1) (by decide)) ?_ ?_, fun _ _ _ q => q⟩
    · intro z
      exact y0 (h0 (by rw [← ep, z]; rfl) I kS_rf)
    · intro I1 k1 z n1
      refine y1 ⟨_, ct_set (t := 2) (show k < 10 by omega) (by decide) n1 ?_, fun _ _ _ q => q⟩
      intro I2 k2 n2
      exact y1 (h1 I2 _ (kS_tr k1 k2) (by rw [← ep, z]; rfl) n2)
  by_cases q20 : o = 20
  · subst q20
    rw [ach_20] at h0 h1
    unfold wp_Ju_change
    refine ⟨fun z => absurd z (by decide), fun z => absurd z (by decide), fun z => absurd z (by decide), fun z => absurd z (by decide), fun _ => ?_, fun z => absurd z (by decide), fun z => absurd z (by decide), fun z => absurd z (by decide), fun z => absurd z (by decide), fun z => absurd z (by decide)⟩
    rw [he.1]
    by_cases q : x.1 = 0
    · exact ⟨fun _ => h0 (by unfold aj_dup; rw [if_pos q]) I kS_rf, fun z => absurd (by rw [q]; decide) z⟩
    · refine ⟨fun z => absurd z (nI_nle (by omega) (by omega)), fun _ => ⟨_, ct_upper (by omega) (by omega) hwt he ?_, fun _ _ _ q => q⟩⟩
      have t12 := hwt.1 (x.1 - 1) (by omega)
      refine ⟨_, ct_put (by omega) he (by omega) ?_, fun _ _ _ q => q⟩
      intro I2 y k2 e2 n2
      refine y1 (h1 I2 y k2 ?_ n2)
      unfold aj_dup
      rw [if_neg q]
      unfold aj_put at e2
      rw [if_neg (by omega)] at e2
      exact e2
  by_cases q21 : o = 21
  · subst q21
    rw [ach_21] at h0 h1
    unfold wp_Ju_change
    refine ⟨fun z => absurd z (by decide), fun z => absurd z (by decide), fun z => absurd z (by decide), fun z => absurd z (by decide), fun z => absurd z (by decide), fun _ => ?_, fun z => absurd z (by decide), fun z => absurd z (by decide), fun z => absurd z (by decide), fun z => absurd z (by decide)⟩
    refine ⟨_, ct_any (by omega) hwt he ?_ ?_, fun _ _ _ q => q⟩
    · intro z
      exact ⟨bo_0, h0 (aj_pop_n (fun w => w.1 z)) I kS_rf⟩
    · intro I2 k2 z n2
      exact ⟨bo_1, h1 I2 _ k2 (aj_pop_y z (Or.inl rfl)) n2⟩
  by_cases q22 : o = 22
  · subst q22
    rw [ach_22] at h0 h1
    unfold wp_Ju_change
    refine ⟨fun z => absurd z (by decide), fun z => absurd z (by decide), fun z => absurd z (by decide), fun z => absurd z (by decide), fun z => absurd z (by decide), fun z => absurd z (by decide), fun _ => ?_, fun z => absurd z (by decide), fun z => absurd z (by decide), fun z => absurd z (by decide)⟩
    refine ⟨_, ct_turn (by omega) he ?_ ?_, fun _ _ _ q => q⟩
    · intro z
      exact ⟨bo_0, h0 (by unfold aj_swap; rw [if_pos z]) I kS_rf⟩
    · intro I2 k2 z n2
      exact ⟨bo_1, h1 I2 _ k2 (by unfold aj_swap; rw [if_neg z]) n2⟩
  by_cases q23 : o = 23
  · subst q23
    obtain ⟨hv, hth⟩ := hok.2.2 rfl
    obtain ⟨k, hk, rfl⟩ := vp_in_of hv (by decide)
    rw [cl (show k < 2 ^ 31 by omega)] at hth
    rw [ach_23 hk hth] at h0 h1
    obtain ⟨w1, w2, w3, w4, -⟩ := hw k hk
    obtain ⟨c1, c2, c3, c4, -⟩ := hc k hk
    unfold wp_Ju_change
    refine ⟨fun z => absurd z (by decide), fun z => absurd z (by decide), fun z => absurd z (by decide), fun z => absurd z (by decide), fun z => absurd z (by decide), fun z => absurd z (by decide), fun z => absurd z (by decide), fun _ => ⟨hv, hv, ?_⟩, fun z => absurd z (by decide), fun z => absurd z (by decide)⟩
    rw [cl (show k < 2 ^ 31 by omega), c2, c3]
    refine ⟨_, ct_take he (by omega) hwt (by omega) (bs_nI w3) ?_ ?_, fun _ _ _ q => q⟩
    · intro z
      exact y0 (h0 (by rw [z]; rfl) I kS_rf)
    · intro I1 k1 z n1
      refine y1 ⟨hv, ?_⟩
      rw [k1 (23 + 10 * k) (by omega), c4]
      refine ⟨_, ct_put w4 n1 (by show x.1 - P.1 k 1 ≤ 16; omega) ?_, fun _ _ _ q => q⟩
      intro I2 y k2 e2 n2
      exact y1 (h1 I2 y (kS_tr k1 k2) (by rw [z]; exact e2) n2)
  by_cases q24 : o = 24
  · subst q24
    rw [ach_24] at h0 h1
    have c4 := (hc m hm).2.2.2.1
    have w4 := (hw m hm).2.2.2.1
    unfold wp_Ju_change wp_Ju_change_355 wp_Ju_change_361
    refine ⟨fun z => absurd z (by decide), fun z => absurd z (by decide), fun z => absurd z (by decide), fun z => absurd z (by decide), fun z => absurd z (by decide), fun z => absurd z (by decide), fun z => absurd z (by decide), fun z => absurd z (by decide), fun _ => ?_, fun z => absurd z (by decide)⟩
    rw [c4]
    rcases (show P.1 m 3 = 0 ∨ P.1 m 3 = 1 ∨ P.1 m 3 = 2 by omega) with q | q | q
    · rw [if_pos q] at h0 h1
      rw [q]
      exact ⟨fun _ => h1 I x kS_rf rfl he, fun z => absurd rfl z⟩
    · rw [if_neg (by omega), q] at h0 h1
      rw [q]
      have ep := aj_args_1 (t := 1) (b := 0) x rfl
      refine ⟨fun z => absurd z (by decide), fun _ => ⟨fun _ => ⟨_, ct_take (n := 1) (b := 0) he (by omega) hwt (by decide) (bs_nI (a := 0) (n := 1) (by decide)) ?_ ?_, fun _ _ _ q => q⟩, fun z => absurd z (by decide)⟩⟩
      · intro z
        exact y0 (h0 (by rw [← ep, z]) I kS_rf)
      · intro I1 k1 z n1
        exact y1 (h1 I1 _ k1 (by rw [← ep, z]) n1)
    · rw [if_neg (by omega), q] at h0 h1
      rw [q]
      have ep := aj_args_1 (t := 2) (b := 1) x rfl
      refine ⟨fun z => absurd z (by decide), fun _ => ⟨fun z => absurd rfl z, fun _ => ⟨_, ct_take (n := 1) (b := 1) he (by omega) hwt (by decide) (bs_nI (a := 1) (n := 1) (by decide)) ?_ ?_, fun _ _ _ q => q⟩⟩⟩
      · intro z
        exact y0 (h0 (by rw [← ep, z]) I kS_rf)
      · intro I1 k1 z n1
        exact y1 (h1 I1 _ k1 (by rw [← ep, z]) n1)
  rw [ach_def (by omega) (by omega) q20 q21 q22 q23 q24] at h0 h1
  have hn : ∀ a, a < 26 → (nI o = nI a ↔ o = a) := fun a ha => nI_eq (by omega) (by omega)
  have hd : ¬ nI o = 1 ∧ ¬ nI o = 2 ∧ ¬ nI o = 3 ∧ ¬ nI o = 4 ∧ ¬ nI o = 20 ∧ ¬ nI o = 21 ∧ ¬ nI o = 22 ∧ ¬ nI o = 23 ∧ ¬ nI o = 24 := ⟨fun z => q1 ((hn 1 (by decide)).mp z), fun z => q2 ((hn 2 (by decide)).mp z), fun z => q3 ((hn 3 (by decide)).mp z), fun z => q4 ((hn 4 (by decide)).mp z), fun z => q20 ((hn 20 (by decide)).mp z), fun z => q21 ((hn 21 (by decide)).mp z), fun z => q22 ((hn 22 (by decide)).mp z), fun z => q23 ((hn 23 (by decide)).mp z), fun z => q24 ((hn 24 (by decide)).mp z)⟩
  by_cases r0 : o = 0
  · subst r0
    exact ct_def hd or_0 he hx hwt h0 h1
  by_cases r5 : o = 5
  · subst r5
    exact ct_def hd or_5 he hx hwt h0 h1
  by_cases r6 : o = 6
  · subst r6
    exact ct_def hd or_6 he hx hwt h0 h1
  by_cases r7 : o = 7
  · subst r7
    exact ct_def hd or_7 he hx hwt h0 h1
  by_cases r8 : o = 8
  · subst r8
    exact ct_def hd or_8 he hx hwt h0 h1
  by_cases r9 : o = 9
  · subst r9
    exact ct_def hd or_9 he hx hwt h0 h1
  by_cases r10 : o = 10
  · subst r10
    exact ct_def hd or_10 he hx hwt h0 h1
  by_cases r11 : o = 11
  · subst r11
    exact ct_def hd or_11 he hx hwt h0 h1
  by_cases r12 : o = 12
  · subst r12
    exact ct_def hd or_12 he hx hwt h0 h1
  by_cases r13 : o = 13
  · subst r13
    exact ct_def hd or_13 he hx hwt h0 h1
  by_cases r14 : o = 14
  · subst r14
    exact ct_def hd or_14 he hx hwt h0 h1
  by_cases r15 : o = 15
  · subst r15
    exact ct_def hd or_15 he hx hwt h0 h1
  by_cases r16 : o = 16
  · subst r16
    exact ct_def hd or_16 he hx hwt h0 h1
  by_cases r17 : o = 17
  · subst r17
    exact ct_def hd or_17 he hx hwt h0 h1
  by_cases r18 : o = 18
  · subst r18
    exact ct_def hd or_18 he hx hwt h0 h1
  by_cases r19 : o = 19
  · subst r19
    exact ct_def hd or_19 he hx hwt h0 h1
  by_cases r25 : o = 25
  · subst r25
    exact ct_def hd or_25 he hx hwt h0 h1
  omega
end CH
