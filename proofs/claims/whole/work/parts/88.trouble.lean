/-! trouble -/
theorem wl {k : Int32} {n : Nat} (hn : n < 2 ^ 31) : (0 ≤ k ∧ k ≤ nI n - 1) ↔ (¬ k < 0 ∧ k < nI n) := by
  rcases Nat.eq_zero_or_pos n with e | e
  · subst e
    refine ⟨fun q => absurd (Int32.le_trans q.1 q.2) (by decide), fun q => ?_⟩
    obtain ⟨j, hj, -⟩ := in_nI (n := 0) rfl (by decide) q
    exact absurd hj (Nat.not_lt_zero _)
  · obtain ⟨k2, rfl⟩ : ∃ k2, n = k2 + 1 := ⟨n - 1, by omega⟩
    rw [nI_pred]
    exact ⟨fun q => w_b (n := k2) rfl rfl hn q, fun q => b_w (n := k2) rfl rfl hn q⟩
section TR
variable {P : aj_P} {m f : Nat} {v : Int32} {x y : aj_S} {A : am}
theorem at_0 : A.2.2 0 f (A.2.1 2 f - 1 - 0) = aTop A f := rfl
theorem at_1 : A.2.2 0 f (A.2.1 2 f - 1 - 1) = aTop (aPop A f) f := by
  show _ = A.2.2 0 f (va_up (A.2.1 2) f (A.2.1 2 f - 1) f - 1)
  rw [va_up_self]
theorem at_2 : A.2.2 0 f (A.2.1 2 f - 1 - 2) = aTop (aPop (aPop A f) f) f := by
  show _ = A.2.2 0 f (va_up ((aPop A f).2.1 2) f ((aPop A f).2.1 2 f - 1) f - 1)
  rw [va_up_self]
  show _ = A.2.2 0 f (va_up (A.2.1 2) f (A.2.1 2 f - 1) f - 1 - 1)
  rw [va_up_self]
  rfl
/-- what is sure when there is no trouble -/
def nt (A : am) (f o : Nat) : Prop := (o = 8 ∨ o = 9 → ¬ aTop A f = 0) ∧ (o = 10 → ∃ n, aTop A f = nI n ∧ A.1 1 < 200 ∧ A.1 2 + n ≤ 2000) ∧ (o = 11 → ∃ a, aTop A f = nI a ∧ a < A.1 1) ∧ (o = 12 → ∃ a j, aTop (aPop A f) f = nI a ∧ a < A.1 1 ∧ aTop A f = nI j ∧ j < A.2.1 4 a) ∧ (o = 13 → ∃ a j, aTop (aPop (aPop A f) f) f = nI a ∧ a < A.1 1 ∧ aTop (aPop A f) f = nI j ∧ j < A.2.1 4 a) ∧ (o = 23 → A.1 0 < 50)
def trs (A : am) (f o : Nat) : Prop := ∃ r : Nat, r ≤ 7 ∧ (∀ (I : SI) (F : SF), cB A I F → ∀ Post : Int32 → SI → SF → Prop, Post (nI r) I F → wp_Ma_troubleWith (nI o) I F Post) ∧ (∀ (J : SI) (G : SF), mB A J G → ∀ Post : Int32 → SI → SF → Prop, Post (nI r) J G → wp_MM_troubleOf (nI o) J G Post) ∧ (r = 0 → nt A f o)
theorem tr_8 (hf : A.1 0 = f + 1) (hb : aB A) (hH : aH A) (hY : aY (A.1 1) x A f) (he : aj_do P m 8 v x = some y) : trs A f 8 := by
  have he : ((aj_pop 1 x).bind (aj_pops [1])).bind (aj_put 1) = some y := he
  obtain ⟨z2, e2, e3⟩ := bind_s he
  obtain ⟨z1, e1, e2⟩ := bind_s e2
  obtain ⟨p1, p2, -, -⟩ := aY_pop hY e1
  by_cases w : aTop A f = 0
  · refine ⟨2, by decide, fun I F hA Post h => ⟨fun _ => ⟨_, (cw_top (k := 0) hA hf hb p2).mpr ⟨fun z => absurd w z, fun _ => h⟩, fun _ _ _ q => q⟩, fun z => absurd z (by decide), fun z => absurd z (by decide), fun z => absurd z (by decide), fun z => absurd z (by decide), fun z => absurd z (by decide), fun z => absurd z (by decide), fun z => absurd z (by decide)⟩, fun J G hB Post h => ⟨fun _ => ⟨_, (mw_peek (k := 0) hB hf hb p2).mpr ⟨fun z => absurd w z, fun _ => h⟩, fun _ _ _ q => q⟩, fun z => absurd z (by decide)⟩, fun z => absurd z (by decide)⟩
  · refine ⟨0, by decide, fun I F hA Post h => ⟨fun _ => ⟨_, (cw_top (k := 0) hA hf hb p2).mpr ⟨fun _ => h, fun z => absurd z w⟩, fun _ _ _ q => q⟩, fun z => absurd z (by decide), fun z => absurd z (by decide), fun z => absurd z (by decide), fun z => absurd z (by decide), fun z => absurd z (by decide), fun z => absurd z (by decide), fun z => absurd z (by decide)⟩, fun J G hB Post h => ⟨fun _ => ⟨_, (mw_peek (k := 0) hB hf hb p2).mpr ⟨fun _ => ⟨fun _ => ⟨fun _ => ⟨fun _ => ⟨fun _ => ⟨fun _ => ⟨fun _ => ⟨fun _ => h, fun z => absurd z (by decide)⟩, fun z => absurd z (by decide)⟩, fun z => absurd z (by decide)⟩, fun z => absurd z (by decide)⟩, fun z => absurd z (by decide)⟩, fun z => absurd z (by decide)⟩, fun z => absurd z (by decide)⟩, fun z => absurd z w⟩, fun _ _ _ q => q⟩, fun z => absurd z (by decide)⟩, fun _ => ⟨fun _ => w, fun w => absurd w (by decide), fun w => absurd w (by decide), fun w => absurd w (by decide), fun w => absurd w (by decide), fun w => absurd w (by decide)⟩⟩
theorem tr_9 (hf : A.1 0 = f + 1) (hb : aB A) (hH : aH A) (hY : aY (A.1 1) x A f) (he : aj_do P m 9 v x = some y) : trs A f 9 := by
  have he : ((aj_pop 1 x).bind (aj_pops [1])).bind (aj_put 1) = some y := he
  obtain ⟨z2, e2, e3⟩ := bind_s he
  obtain ⟨z1, e1, e2⟩ := bind_s e2
  obtain ⟨p1, p2, -, -⟩ := aY_pop hY e1
  by_cases w : aTop A f = 0
  · refine ⟨2, by decide, fun I F hA Post h => ⟨fun z => absurd z (by decide), fun _ => ⟨_, (cw_top (k := 0) hA hf hb p2).mpr ⟨fun z => absurd w z, fun _ => h⟩, fun _ _ _ q => q⟩, fun z => absurd z (by decide), fun z => absurd z (by decide), fun z => absurd z (by decide), fun z => absurd z (by decide), fun z => absurd z (by decide), fun z => absurd z (by decide)⟩, fun J G hB Post h => ⟨fun z => absurd z (by decide), fun _ => ⟨fun z => absurd z (by decide), fun _ => ⟨_, (mw_peek (k := 0) hB hf hb p2).mpr ⟨fun z => absurd w z, fun _ => h⟩, fun _ _ _ q => q⟩⟩⟩, fun z => absurd z (by decide)⟩
  · refine ⟨0, by decide, fun I F hA Post h => ⟨fun z => absurd z (by decide), fun _ => ⟨_, (cw_top (k := 0) hA hf hb p2).mpr ⟨fun _ => h, fun z => absurd z w⟩, fun _ _ _ q => q⟩, fun z => absurd z (by decide), fun z => absurd z (by decide), fun z => absurd z (by decide), fun z => absurd z (by decide), fun z => absurd z (by decide), fun z => absurd z (by decide)⟩, fun J G hB Post h => ⟨fun z => absurd z (by decide), fun _ => ⟨fun z => absurd z (by decide), fun _ => ⟨_, (mw_peek (k := 0) hB hf hb p2).mpr ⟨fun _ => ⟨fun _ => ⟨fun _ => ⟨fun _ => ⟨fun _ => ⟨fun _ => ⟨fun _ => ⟨fun _ => h, fun z => absurd z (by decide)⟩, fun z => absurd z (by decide)⟩, fun z => absurd z (by decide)⟩, fun z => absurd z (by decide)⟩, fun z => absurd z (by decide)⟩, fun z => absurd z (by decide)⟩, fun z => absurd z (by decide)⟩, fun z => absurd z w⟩, fun _ _ _ q => q⟩⟩⟩, fun _ => ⟨fun _ => w, fun w => absurd w (by decide), fun w => absurd w (by decide), fun w => absurd w (by decide), fun w => absurd w (by decide), fun w => absurd w (by decide)⟩⟩
theorem tr_10 (hf : A.1 0 = f + 1) (hb : aB A) (hH : aH A) (hY : aY (A.1 1) x A f) (he : aj_do P m 10 v x = some y) : trs A f 10 := by
  have he : ((aj_pop 1 x).bind some).bind (aj_put 2) = some y := he
  obtain ⟨z2, e2, e3⟩ := bind_s he
  obtain ⟨z1, e1, e2⟩ := bind_s e2
  obtain ⟨p1, p2, -, -⟩ := aY_pop hY e1
  have h1 := hH.1
  have h2 := hH.2.1
  by_cases w : aTop A f < 0
  · have w2 : ¬ 0 ≤ aTop A f := Int32.not_le.mpr w
    refine ⟨5, by decide, fun I F hA Post h => ⟨fun z => absurd z (by decide), fun z => absurd z (by decide), fun _ => ⟨_, (cw_top (k := 0) hA hf hb p2).mpr ⟨_, ⟨fun z => absurd z w2, fun _ => h⟩, fun _ _ _ q => q⟩, fun _ _ _ q => q⟩, fun z => absurd z (by decide), fun z => absurd z (by decide), fun z => absurd z (by decide), fun z => absurd z (by decide), fun z => absurd z (by decide)⟩, fun J G hB Post h => ⟨fun z => absurd z (by decide), fun _ => ⟨fun _ => ⟨fun _ => ⟨fun _ => ⟨fun _ => ⟨fun _ => ⟨fun _ => ⟨fun z => absurd z (by decide), fun _ => ⟨_, (mw_peek (k := 0) hB hf hb p2).mpr ⟨fun z => absurd z w2, fun _ => h⟩, fun _ _ _ q => q⟩⟩, fun z => absurd z (by decide)⟩, fun z => absurd z (by decide)⟩, fun z => absurd z (by decide)⟩, fun z => absurd z (by decide)⟩, fun z => absurd z (by decide)⟩, fun z => absurd z (by decide)⟩⟩, fun z => absurd z (by decide)⟩
  · have w2 : 0 ≤ aTop A f := Int32.not_lt.mp w
    by_cases w3 : A.1 1 < 200 ∧ ¬ (2000 : Int32) - nI (A.1 2) < aTop A f
    · refine ⟨0, by decide, fun I F hA Post h => ⟨fun z => absurd z (by decide), fun z => absurd z (by decide), fun _ => ⟨_, (cw_top (k := 0) hA hf hb p2).mpr ⟨_, ⟨fun _ => ⟨_, (cw_room hA hH).mpr ?_, fun _ _ _ q => q⟩, fun z => absurd w2 z⟩, fun _ _ _ q => q⟩, fun _ _ _ q => q⟩, fun z => absurd z (by decide), fun z => absurd z (by decide), fun z => absurd z (by decide), fun z => absurd z (by decide), fun z => absurd z (by decide)⟩, fun J G hB Post h => ⟨fun z => absurd z (by decide), fun _ => ⟨fun _ => ⟨fun _ => ⟨fun _ => ⟨fun _ => ⟨fun _ => ⟨fun _ => ⟨fun z => absurd z (by decide), fun _ => ⟨_, (mw_peek (k := 0) hB hf hb p2).mpr ⟨fun _ => ⟨_, (mw_peek (k := 0) hB hf hb p2).mpr ?_, fun _ _ _ q => q⟩, fun z => absurd w2 z⟩, fun _ _ _ q => q⟩⟩, fun z => absurd z (by decide)⟩, fun z => absurd z (by decide)⟩, fun z => absurd z (by decide)⟩, fun z => absurd z (by decide)⟩, fun z => absurd z (by decide)⟩, fun z => absurd z (by decide)⟩⟩, fun _ => ?_⟩
      · obtain ⟨n, hn, e⟩ := nI_of w
        rw [e] at w3
        have h3 : A.1 2 + n ≤ 2000 := by
          have := w3.2
          rw [room_n h2 hn] at this
          omega
        exact ⟨fun w => absurd w (by decide), fun _ => ⟨n, e, w3.1, h3⟩, fun w => absurd w (by decide), fun w => absurd w (by decide), fun w => absurd w (by decide), fun w => absurd w (by decide)⟩
      · show (bi _ = 0 → _) ∧ _
        rw [bi_y (show A.1 1 < 200 ∧ ¬ (2000 : Int32) - nI (A.1 2) < A.2.2 0 f (A.2.1 2 f - 1 - 0) from w3)]
        exact y1 h
      · have e9 : J 9 = 200 ↔ A.1 1 = 200 := by rw [hB.2.1]; exact nI_eq (by omega) (by decide)
        show ((2000 : Int32) - J 10 < _ → _) ∧ _
        rw [hB.2.2.1]
        exact ⟨fun z => absurd z w3.2, fun _ => ⟨fun _ => h, fun z => absurd (e9.mp z) (by omega)⟩⟩
    · refine ⟨6, by decide, fun I F hA Post h => ⟨fun z => absurd z (by decide), fun z => absurd z (by decide), fun _ => ⟨_, (cw_top (k := 0) hA hf hb p2).mpr ⟨_, ⟨fun _ => ⟨_, (cw_room hA hH).mpr ?_, fun _ _ _ q => q⟩, fun z => absurd w2 z⟩, fun _ _ _ q => q⟩, fun _ _ _ q => q⟩, fun z => absurd z (by decide), fun z => absurd z (by decide), fun z => absurd z (by decide), fun z => absurd z (by decide), fun z => absurd z (by decide)⟩, fun J G hB Post h => ⟨fun z => absurd z (by decide), fun _ => ⟨fun _ => ⟨fun _ => ⟨fun _ => ⟨fun _ => ⟨fun _ => ⟨fun _ => ⟨fun z => absurd z (by decide), fun _ => ⟨_, (mw_peek (k := 0) hB hf hb p2).mpr ⟨fun _ => ⟨_, (mw_peek (k := 0) hB hf hb p2).mpr ?_, fun _ _ _ q => q⟩, fun z => absurd w2 z⟩, fun _ _ _ q => q⟩⟩, fun z => absurd z (by decide)⟩, fun z => absurd z (by decide)⟩, fun z => absurd z (by decide)⟩, fun z => absurd z (by decide)⟩, fun z => absurd z (by decide)⟩, fun z => absurd z (by decide)⟩⟩, fun z => absurd z (by decide)⟩
      · show (bi _ = 0 → _) ∧ _
        rw [bi_n (show ¬ (A.1 1 < 200 ∧ ¬ (2000 : Int32) - nI (A.1 2) < A.2.2 0 f (A.2.1 2 f - 1 - 0)) from w3)]
        exact y0 h
      · have e9 : J 9 = 200 ↔ A.1 1 = 200 := by rw [hB.2.1]; exact nI_eq (by omega) (by decide)
        show ((2000 : Int32) - J 10 < _ → _) ∧ _
        rw [hB.2.2.1]
        refine ⟨fun _ => h, fun z => ⟨fun z2 => absurd ⟨?_, z⟩ w3, fun _ => h⟩⟩
        have : ¬ A.1 1 = 200 := fun e => z2 (e9.mpr e)
        omega
theorem tr_11 (hf : A.1 0 = f + 1) (hb : aB A) (hH : aH A) (hY : aY (A.1 1) x A f) (he : aj_do P m 11 v x = some y) : trs A f 11 := by
  have he : ((aj_pop 2 x).bind some).bind (aj_put 1) = some y := he
  obtain ⟨z2, e2, e3⟩ := bind_s he
  obtain ⟨z1, e1, e2⟩ := bind_s e2
  obtain ⟨p1, p2, p3, -⟩ := aY_pop hY e1
  have h1 := hH.1
  rcases (p3.resolve_left (by decide)) rfl with w | w
  · have hn : ¬ vp_in (aTop A f) (A.1 1) := by rw [w]; exact fun q => absurd ((vin_b (by omega)).mp q).1 (by decide)
    refine ⟨3, by decide, fun I F hA Post h => ⟨fun z => absurd z (by decide), fun z => absurd z (by decide), fun z => absurd z (by decide), fun _ => ⟨_, (cw_top (k := 0) hA hf hb p2).mpr ⟨_, (c_hhasn hA hH hn).mpr (y0 h), fun _ _ _ q => q⟩, fun _ _ _ q => q⟩, fun z => absurd z (by decide), fun z => absurd z (by decide), fun z => absurd z (by decide), fun z => absurd z (by decide)⟩, fun J G hB Post h => ⟨fun z => absurd z (by decide), fun _ => ⟨fun _ => ⟨fun z => absurd z (by decide), fun _ => ⟨_, (mw_peek (k := 0) hB hf hb p2).mpr ⟨fun _ => h, fun z => absurd w z⟩, fun _ _ _ q => q⟩⟩, fun z => absurd z (by decide)⟩⟩, fun z => absurd z (by decide)⟩
  · obtain ⟨b, hb2, e⟩ := vp_in_of w (by omega)
    have hne : ¬ aTop A f = -1 := by rw [e]; exact nI_m1 (by omega)
    refine ⟨0, by decide, fun I F hA Post h => ⟨fun z => absurd z (by decide), fun z => absurd z (by decide), fun z => absurd z (by decide), fun _ => ⟨_, (cw_top (k := 0) hA hf hb p2).mpr ⟨_, (show wp_He_has (aTop A f) I F _ by rw [e]; exact (c_hhas hA hH hb2).mpr (y1 h)), fun _ _ _ q => q⟩, fun _ _ _ q => q⟩, fun z => absurd z (by decide), fun z => absurd z (by decide), fun z => absurd z (by decide), fun z => absurd z (by decide)⟩, fun J G hB Post h => ⟨fun z => absurd z (by decide), fun _ => ⟨fun _ => ⟨fun z => absurd z (by decide), fun _ => ⟨_, (mw_peek (k := 0) hB hf hb p2).mpr ⟨fun z => absurd z hne, fun _ => ⟨fun _ => ⟨fun _ => ⟨fun _ => ⟨fun _ => ⟨fun _ => ⟨fun _ => h, fun z => absurd z (by decide)⟩, fun z => absurd z (by decide)⟩, fun z => absurd z (by decide)⟩, fun z => absurd z (by decide)⟩, fun z => absurd z (by decide)⟩, fun z => absurd z (by decide)⟩⟩, fun _ _ _ q => q⟩⟩, fun z => absurd z (by decide)⟩⟩, fun _ => ⟨fun w => absurd w (by decide), fun w => absurd w (by decide), fun _ => ⟨b, e, hb2⟩, fun w => absurd w (by decide), fun w => absurd w (by decide), fun w => absurd w (by decide)⟩⟩
theorem tr_12 (hf : A.1 0 = f + 1) (hb : aB A) (hH : aH A) (hY : aY (A.1 1) x A f) (he : aj_do P m 12 v x = some y) : trs A f 12 := by
  have he : ((aj_pop 1 x).bind (aj_pops [2])).bind (aj_put 1) = some y := he
  obtain ⟨z2, e2, e3⟩ := bind_s he
  obtain ⟨u1, e1, e2⟩ := bind_s e2
  have e2 : (aj_pop 2 u1).bind some = some z2 := e2
  obtain ⟨z3, e2, -⟩ := bind_s e2
  obtain ⟨p1, p2, -, -⟩ := aY_pop hY e1
  obtain ⟨-, r2, r3, -⟩ := aY_pop p1 e2
  have hk : 1 < A.2.1 2 f := by
    have : 0 < va_up (A.2.1 2) f (A.2.1 2 f - 1) f := r2
    rw [va_up_self] at this
    omega
  have h1 := hH.1
  have h2 := hH.2.1
  rcases (r3.resolve_left (by decide)) rfl with w | w
  · have w : aTop (aPop A f) f = -1 := w
    have hn : ¬ vp_in (aTop (aPop A f) f) (A.1 1) := by rw [w]; exact fun q => absurd ((vin_b (by omega)).mp q).1 (by decide)
    refine ⟨3, by decide, fun I F hA Post h => ⟨fun z => absurd z (by decide), fun z => absurd z (by decide), fun z => absurd z (by decide), fun z => absurd z (by decide), fun _ => ⟨_, (cw_top (k := 1) hA hf hb (by omega)).mpr (by rw [at_1]; exact ⟨_, (cw_top (k := 0) hA hf hb (by omega)).mpr (by rw [at_0]; exact ⟨_, ⟨_, (c_hhasn hA hH hn).mpr (z0 h), fun _ _ _ q => q⟩, fun _ _ _ q => q⟩), fun _ _ _ q => q⟩), fun _ _ _ q => q⟩, fun z => absurd z (by decide), fun z => absurd z (by decide), fun z => absurd z (by decide)⟩, fun J G hB Post h => ⟨fun z => absurd z (by decide), fun _ => ⟨fun _ => ⟨fun _ => ⟨fun z => absurd z (by decide), fun _ => ⟨_, (mw_peek (k := 1) hB hf hb (by omega)).mpr (by rw [at_1]; exact ⟨fun _ => h, fun z => absurd w z⟩), fun _ _ _ q => q⟩⟩, fun z => absurd z (by decide)⟩, fun z => absurd z (by decide)⟩⟩, fun z => absurd z (by decide)⟩
  · obtain ⟨b, hb2, e⟩ := vp_in_of (show vp_in (aTop (aPop A f) f) (A.1 1) from w) (by omega)
    have hne : ¬ aTop (aPop A f) f = -1 := by rw [e]; exact nI_m1 (by omega)
    have hs := hH.2.2 b hb2
    have hv201 := vp_in_nI (show b < 201 by omega) (show 201 < 2 ^ 31 by decide)
    by_cases w3 : ¬ aTop A f < 0 ∧ aTop A f < nI (A.2.1 4 b)
    · have hc0 : ∀ (I : SI) (F : SF), cB A I F → ∀ Post : Int32 → SI → SF → Prop, Post 0 I F → wp_Ma_troubleWithCell (aTop (aPop A f) f) (aTop A f) I F Post := by
        intro I F hA Post h
        rw [e]
        refine ⟨_, (c_hhas hA hH hb2).mpr (z1 ⟨_, (c_hcell hA hH hb2).mpr ?_, fun _ _ _ q => q⟩), fun _ _ _ q => q⟩
        rw [bi_y w3]
        exact y1 h
      refine ⟨0, by decide, fun I F hA Post h => ⟨fun z => absurd z (by decide), fun z => absurd z (by decide), fun z => absurd z (by decide), fun z => absurd z (by decide), fun _ => ⟨_, (cw_top (k := 1) hA hf hb (by omega)).mpr (by rw [at_1]; exact ⟨_, (cw_top (k := 0) hA hf hb (by omega)).mpr (by rw [at_0]; exact ⟨_, hc0 I F hA _ h, fun _ _ _ q => q⟩), fun _ _ _ q => q⟩), fun _ _ _ q => q⟩, fun z => absurd z (by decide), fun z => absurd z (by decide), fun z => absurd z (by decide)⟩, fun J G hB Post h => ?_, fun _ => ?_⟩
      · have b23 : G 23 b = nI (A.2.1 4 b) := (hB.2.2.2.2.2.1 b hb2).2
        have hin : vp_in (aTop (aPop A f) f) 201 ∧ ∃ P25 : Int32 → SI → SF → Prop, wp_MM_within (aTop A f) 0 (((G 23) (aTop (aPop A f) f).toNatClampNeg) - 1) J G P25 ∧ ∀ r25 I25 F25, P25 r25 I25 F25 → ((r25 = 0 → (Post 4 I25 F25)) ∧ (¬ r25 = 0 → (wp_MM_troubleOf_99 Post 12 I25 F25))) := by
          rw [e, cl (show b < 2 ^ 31 by omega), b23]
          refine ⟨hv201, _, ev_within.mpr ?_, fun _ _ _ q => q⟩
          rw [bi_y ((wl (by omega)).mpr w3)]
          exact ⟨fun z => absurd z (by decide), fun _ => ⟨fun _ => ⟨fun _ => ⟨fun _ => h, fun z => absurd z (by decide)⟩, fun z => absurd z (by decide)⟩, fun z => absurd z (by decide)⟩⟩
        exact ⟨fun z => absurd z (by decide), fun _ => ⟨fun _ => ⟨fun _ => ⟨fun z => absurd z (by decide), fun _ => ⟨_, (mw_peek (k := 1) hB hf hb (by omega)).mpr (by rw [at_1]; exact ⟨fun z => absurd z hne, fun _ => ⟨fun _ => ⟨fun z => absurd z (by decide), fun _ => ⟨_, (mw_peek (k := 0) hB hf hb (by omega)).mpr (by rw [at_0]; exact ⟨_, (mw_peek (k := 1) hB hf hb (by omega)).mpr (by rw [at_1]; exact hin), fun _ _ _ q => q⟩), fun _ _ _ q => q⟩⟩, fun z => absurd z (by decide)⟩⟩), fun _ _ _ q => q⟩⟩, fun z => absurd z (by decide)⟩, fun z => absurd z (by decide)⟩⟩
      · obtain ⟨j, hj, e2⟩ := in_nI rfl (by omega) w3
        exact ⟨fun w => absurd w (by decide), fun w => absurd w (by decide), fun w => absurd w (by decide), fun _ => ⟨b, j, e, hb2, e2, hj⟩, fun w => absurd w (by decide), fun w => absurd w (by decide)⟩
    · have hc0 : ∀ (I : SI) (F : SF), cB A I F → ∀ Post : Int32 → SI → SF → Prop, Post 4 I F → wp_Ma_troubleWithCell (aTop (aPop A f) f) (aTop A f) I F Post := by
        intro I F hA Post h
        rw [e]
        refine ⟨_, (c_hhas hA hH hb2).mpr (z1 ⟨_, (c_hcell hA hH hb2).mpr ?_, fun _ _ _ q => q⟩), fun _ _ _ q => q⟩
        rw [bi_n w3]
        exact y0 h
      refine ⟨4, by decide, fun I F hA Post h => ⟨fun z => absurd z (by decide), fun z => absurd z (by decide), fun z => absurd z (by decide), fun z => absurd z (by decide), fun _ => ⟨_, (cw_top (k := 1) hA hf hb (by omega)).mpr (by rw [at_1]; exact ⟨_, (cw_top (k := 0) hA hf hb (by omega)).mpr (by rw [at_0]; exact ⟨_, hc0 I F hA _ h, fun _ _ _ q => q⟩), fun _ _ _ q => q⟩), fun _ _ _ q => q⟩, fun z => absurd z (by decide), fun z => absurd z (by decide), fun z => absurd z (by decide)⟩, fun J G hB Post h => ?_, fun z => absurd z (by decide)⟩
      have b23 : G 23 b = nI (A.2.1 4 b) := (hB.2.2.2.2.2.1 b hb2).2
      have hin : vp_in (aTop (aPop A f) f) 201 ∧ ∃ P25 : Int32 → SI → SF → Prop, wp_MM_within (aTop A f) 0 (((G 23) (aTop (aPop A f) f).toNatClampNeg) - 1) J G P25 ∧ ∀ r25 I25 F25, P25 r25 I25 F25 → ((r25 = 0 → (Post 4 I25 F25)) ∧ (¬ r25 = 0 → (wp_MM_troubleOf_99 Post 12 I25 F25))) := by
        rw [e, cl (show b < 2 ^ 31 by omega), b23]
        refine ⟨hv201, _, ev_within.mpr ?_, fun _ _ _ q => q⟩
        rw [bi_n (fun q => w3 ((wl (by omega)).mp q))]
        exact ⟨fun _ => h, fun z => absurd rfl z⟩
      exact ⟨fun z => absurd z (by decide), fun _ => ⟨fun _ => ⟨fun _ => ⟨fun z => absurd z (by decide), fun _ => ⟨_, (mw_peek (k := 1) hB hf hb (by omega)).mpr (by rw [at_1]; exact ⟨fun z => absurd z hne, fun _ => ⟨fun _ => ⟨fun z => absurd z (by decide), fun _ => ⟨_, (mw_peek (k := 0) hB hf hb (by omega)).mpr (by rw [at_0]; exact ⟨_, (mw_peek (k := 1) hB hf hb (by omega)).mpr (by rw [at_1]; exact hin), fun _ _ _ q => q⟩), fun _ _ _ q => q⟩⟩, fun z => absurd z (by decide)⟩⟩), fun _ _ _ q => q⟩⟩, fun z => absurd z (by decide)⟩, fun z => absurd z (by decide)⟩⟩
theorem tr_13 (hf : A.1 0 = f + 1) (hb : aB A) (hH : aH A) (hY : aY (A.1 1) x A f) (he : aj_do P m 13 v x = some y) : trs A f 13 := by
  have he : ((aj_pop 1 x).bind (aj_pops [1, 2])).bind (aj_put 0) = some y := he
  obtain ⟨z2, e2, e3⟩ := bind_s he
  obtain ⟨u1, e1, e2⟩ := bind_s e2
  have e2 : (aj_pop 1 u1).bind (aj_pops [2]) = some z2 := e2
  obtain ⟨z3, e2, e4⟩ := bind_s e2
  have e4 : (aj_pop 2 z3).bind some = some z2 := e4
  obtain ⟨z4, e4, -⟩ := bind_s e4
  obtain ⟨p1, p2, -, -⟩ := aY_pop hY e1
  obtain ⟨q1, q2, -, -⟩ := aY_pop p1 e2
  obtain ⟨-, r2, r3, -⟩ := aY_pop q1 e4
  have hk : 2 < A.2.1 2 f := by
    have : 0 < va_up ((aPop A f).2.1 2) f ((aPop A f).2.1 2 f - 1) f := r2
    rw [va_up_self] at this
    have : 0 < va_up (A.2.1 2) f (A.2.1 2 f - 1) f - 1 := this
    rw [va_up_self] at this
    omega
  have h1 := hH.1
  have h2 := hH.2.1
  rcases (r3.resolve_left (by decide)) rfl with w | w
  · have w : aTop (aPop (aPop A f) f) f = -1 := w
    have hn : ¬ vp_in (aTop (aPop (aPop A f) f) f) (A.1 1) := by rw [w]; exact fun q => absurd ((vin_b (by omega)).mp q).1 (by decide)
    refine ⟨3, by decide, fun I F hA Post h => ⟨fun z => absurd z (by decide), fun z => absurd z (by decide), fun z => absurd z (by decide), fun z => absurd z (by decide), fun z => absurd z (by decide), fun _ => ⟨_, (cw_top (k := 2) hA hf hb (by omega)).mpr (by rw [at_2]; exact ⟨_, (cw_top (k := 1) hA hf hb (by omega)).mpr (by rw [at_1]; exact ⟨_, ⟨_, (c_hhasn hA hH hn).mpr (z0 h), fun _ _ _ q => q⟩, fun _ _ _ q => q⟩), fun _ _ _ q => q⟩), fun _ _ _ q => q⟩, fun z => absurd z (by decide), fun z => absurd z (by decide)⟩, fun J G hB Post h => ⟨fun z => absurd z (by decide), fun _ => ⟨fun _ => ⟨fun _ => ⟨fun _ => ⟨fun z => absurd z (by decide), fun _ => ⟨_, (mw_peek (k := 2) hB hf hb (by omega)).mpr (by rw [at_2]; exact ⟨fun z => absurd w z, fun _ => h⟩), fun _ _ _ q => q⟩⟩, fun z => absurd z (by decide)⟩, fun z => absurd z (by decide)⟩, fun z => absurd z (by decide)⟩⟩, fun z => absurd z (by decide)⟩
  · obtain ⟨b, hb2, e⟩ := vp_in_of (show vp_in (aTop (aPop (aPop A f) f) f) (A.1 1) from w) (by omega)
    have hne : ¬ aTop (aPop (aPop A f) f) f = -1 := by rw [e]; exact nI_m1 (by omega)
    have hs := hH.2.2 b hb2
    have hv201 := vp_in_nI (show b < 201 by omega) (show 201 < 2 ^ 31 by decide)
    by_cases w3 : ¬ aTop (aPop A f) f < 0 ∧ aTop (aPop A f) f < nI (A.2.1 4 b)
    · have hc0 : ∀ (I : SI) (F : SF), cB A I F → ∀ Post : Int32 → SI → SF → Prop, Post 0 I F → wp_Ma_troubleWithCell (aTop (aPop (aPop A f) f) f) (aTop (aPop A f) f) I F Post := by
        intro I F hA Post h
        rw [e]
        refine ⟨_, (c_hhas hA hH hb2).mpr (z1 ⟨_, (c_hcell hA hH hb2).mpr ?_, fun _ _ _ q => q⟩), fun _ _ _ q => q⟩
        rw [bi_y w3]
        exact y1 h
      refine ⟨0, by decide, fun I F hA Post h => ⟨fun z => absurd z (by decide), fun z => absurd z (by decide), fun z => absurd z (by decide), fun z => absurd z (by decide), fun z => absurd z (by decide), fun _ => ⟨_, (cw_top (k := 2) hA hf hb (by omega)).mpr (by rw [at_2]; exact ⟨_, (cw_top (k := 1) hA hf hb (by omega)).mpr (by rw [at_1]; exact ⟨_, hc0 I F hA _ h, fun _ _ _ q => q⟩), fun _ _ _ q => q⟩), fun _ _ _ q => q⟩, fun z => absurd z (by decide), fun z => absurd z (by decide)⟩, fun J G hB Post h => ?_, fun _ => ?_⟩
      · have b23 : G 23 b = nI (A.2.1 4 b) := (hB.2.2.2.2.2.1 b hb2).2
        have hin : vp_in (aTop (aPop (aPop A f) f) f) 201 ∧ ∃ P20 : Int32 → SI → SF → Prop, wp_MM_within (aTop (aPop A f) f) 0 (((G 23) (aTop (aPop (aPop A f) f) f).toNatClampNeg) - 1) J G P20 ∧ ∀ r20 I20 F20, P20 r20 I20 F20 → ((¬ r20 = 0 → (wp_MM_troubleOf_131 Post 13 I20 F20)) ∧ (r20 = 0 → (Post 4 I20 F20))) := by
          rw [e, cl (show b < 2 ^ 31 by omega), b23]
          refine ⟨hv201, _, ev_within.mpr ?_, fun _ _ _ q => q⟩
          rw [bi_y ((wl (by omega)).mpr w3)]
          exact ⟨fun _ => ⟨fun _ => ⟨fun _ => h, fun z => absurd z (by decide)⟩, fun z => absurd z (by decide)⟩, fun z => absurd z (by decide)⟩
        exact ⟨fun z => absurd z (by decide), fun _ => ⟨fun _ => ⟨fun _ => ⟨fun _ => ⟨fun z => absurd z (by decide), fun _ => ⟨_, (mw_peek (k := 2) hB hf hb (by omega)).mpr (by rw [at_2]; exact ⟨fun _ => ⟨fun _ => ⟨fun z => absurd z (by decide), fun _ => ⟨_, (mw_peek (k := 1) hB hf hb (by omega)).mpr (by rw [at_1]; exact ⟨_, (mw_peek (k := 2) hB hf hb (by omega)).mpr (by rw [at_2]; exact hin), fun _ _ _ q => q⟩), fun _ _ _ q => q⟩⟩, fun z => absurd z (by decide)⟩, fun z => absurd z hne⟩), fun _ _ _ q => q⟩⟩, fun z => absurd z (by decide)⟩, fun z => absurd z (by decide)⟩, fun z => absurd z (by decide)⟩⟩
      · obtain ⟨j, hj, e2⟩ := in_nI rfl (by omega) w3
        exact ⟨fun w => absurd w (by decide), fun w => absurd w (by decide), fun w => absurd w (by decide), fun w => absurd w (by decide), fun _ => ⟨b, j, e, hb2, e2, hj⟩, fun w => absurd w (by decide)⟩
    · have hc0 : ∀ (I : SI) (F : SF), cB A I F → ∀ Post : Int32 → SI → SF → Prop, Post 4 I F → wp_Ma_troubleWithCell (aTop (aPop (aPop A f) f) f) (aTop (aPop A f) f) I F Post := by
        intro I F hA Post h
        rw [e]
        refine ⟨_, (c_hhas hA hH hb2).mpr (z1 ⟨_, (c_hcell hA hH hb2).mpr ?_, fun _ _ _ q => q⟩), fun _ _ _ q => q⟩
        rw [bi_n w3]
        exact y0 h
      refine ⟨4, by decide, fun I F hA Post h => ⟨fun z => absurd z (by decide), fun z => absurd z (by decide), fun z => absurd z (by decide), fun z => absurd z (by decide), fun z => absurd z (by decide), fun _ => ⟨_, (cw_top (k := 2) hA hf hb (by omega)).mpr (by rw [at_2]; exact ⟨_, (cw_top (k := 1) hA hf hb (by omega)).mpr (by rw [at_1]; exact ⟨_, hc0 I F hA _ h, fun _ _ _ q => q⟩), fun _ _ _ q => q⟩), fun _ _ _ q => q⟩, fun z => absurd z (by decide), fun z => absurd z (by decide)⟩, fun J G hB Post h => ?_, fun z => absurd z (by decide)⟩
      have b23 : G 23 b = nI (A.2.1 4 b) := (hB.2.2.2.2.2.1 b hb2).2
      have hin : vp_in (aTop (aPop (aPop A f) f) f) 201 ∧ ∃ P20 : Int32 → SI → SF → Prop, wp_MM_within (aTop (aPop A f) f) 0 (((G 23) (aTop (aPop (aPop A f) f) f).toNatClampNeg) - 1) J G P20 ∧ ∀ r20 I20 F20, P20 r20 I20 F20 → ((¬ r20 = 0 → (wp_MM_troubleOf_131 Post 13 I20 F20)) ∧ (r20 = 0 → (Post 4 I20 F20))) := by
        rw [e, cl (show b < 2 ^ 31 by omega), b23]
        refine ⟨hv201, _, ev_within.mpr ?_, fun _ _ _ q => q⟩
        rw [bi_n (fun q => w3 ((wl (by omega)).mp q))]
        exact ⟨fun z => absurd rfl z, fun _ => h⟩
      exact ⟨fun z => absurd z (by decide), fun _ => ⟨fun _ => ⟨fun _ => ⟨fun _ => ⟨fun z => absurd z (by decide), fun _ => ⟨_, (mw_peek (k := 2) hB hf hb (by omega)).mpr (by rw [at_2]; exact ⟨fun _ => ⟨fun _ => ⟨fun z => absurd z (by decide), fun _ => ⟨_, (mw_peek (k := 1) hB hf hb (by omega)).mpr (by rw [at_1]; exact ⟨_, (mw_peek (k := 2) hB hf hb (by omega)).mpr (by rw [at_2]; exact hin), fun _ _ _ q => q⟩), fun _ _ _ q => q⟩⟩, fun z => absurd z (by decide)⟩, fun z => absurd z hne⟩), fun _ _ _ q => q⟩⟩, fun z => absurd z (by decide)⟩, fun z => absurd z (by decide)⟩, fun z => absurd z (by decide)⟩⟩
theorem tr_23 (hf : A.1 0 = f + 1) (hb : aB A) (hH : aH A) (hY : aY (A.1 1) x A f) : trs A f 23 := by
  have h50 := hb.1
  have e5 : ∀ (J : SI) (G : SF), mB A J G → (J 5 = 50 ↔ A.1 0 = 50) := fun J G hB => by rw [hB.1]; exact nI_eq (by omega) (by decide)
  have e9 : ∀ (I : SI) (F : SF), cB A I F → (I 9 < 50 ↔ A.1 0 < 50) := fun I F hA => by rw [hA.1]; exact nI_ltI (by omega) (by decide)
  by_cases w : A.1 0 < 50
  · refine ⟨0, by decide, fun I F hA Post h => ⟨fun z => absurd z (by decide), fun z => absurd z (by decide), fun z => absurd z (by decide), fun z => absurd z (by decide), fun z => absurd z (by decide), fun z => absurd z (by decide), fun _ => ⟨fun _ => h, fun z => absurd ((e9 I F hA).mpr w) z⟩, fun z => absurd z (by decide)⟩, fun J G hB Post h => ⟨fun z => absurd z (by decide), fun _ => ⟨fun _ => ⟨fun _ => ⟨fun _ => ⟨fun _ => ⟨fun _ => ⟨fun _ => ⟨fun _ => ⟨fun z => absurd z (by decide), fun _ => ⟨fun _ => h, fun z => absurd ((e5 J G hB).mp z) (by omega)⟩⟩, fun z => absurd z (by decide)⟩, fun z => absurd z (by decide)⟩, fun z => absurd z (by decide)⟩, fun z => absurd z (by decide)⟩, fun z => absurd z (by decide)⟩, fun z => absurd z (by decide)⟩, fun z => absurd z (by decide)⟩⟩, fun _ => ⟨fun w => absurd w (by decide), fun w => absurd w (by decide), fun w => absurd w (by decide), fun w => absurd w (by decide), fun w => absurd w (by decide), fun _ => w⟩⟩
  · refine ⟨7, by decide, fun I F hA Post h => ⟨fun z => absurd z (by decide), fun z => absurd z (by decide), fun z => absurd z (by decide), fun z => absurd z (by decide), fun z => absurd z (by decide), fun z => absurd z (by decide), fun _ => ⟨fun z => absurd ((e9 I F hA).mp z) w, fun _ => h⟩, fun z => absurd z (by decide)⟩, fun J G hB Post h => ⟨fun z => absurd z (by decide), fun _ => ⟨fun _ => ⟨fun _ => ⟨fun _ => ⟨fun _ => ⟨fun _ => ⟨fun _ => ⟨fun _ => ⟨fun z => absurd z (by decide), fun _ => ⟨fun z => absurd ((e5 J G hB).mpr (by omega)) z, fun _ => h⟩⟩, fun z => absurd z (by decide)⟩, fun z => absurd z (by decide)⟩, fun z => absurd z (by decide)⟩, fun z => absurd z (by decide)⟩, fun z => absurd z (by decide)⟩, fun z => absurd z (by decide)⟩, fun z => absurd z (by decide)⟩⟩, fun z => absurd z (by decide)⟩
theorem tr_0 : trs A f 0 := ⟨0, by decide, fun I F hA Post h => ⟨fun z => absurd z (by decide), fun z => absurd z (by decide), fun z => absurd z (by decide), fun z => absurd z (by decide), fun z => absurd z (by decide), fun z => absurd z (by decide), fun z => absurd z (by decide), fun _ => h⟩, fun J G hB Post h => ⟨fun z => absurd z (by decide), fun _ => ⟨fun _ => ⟨fun _ => ⟨fun _ => ⟨fun _ => ⟨fun _ => ⟨fun _ => ⟨fun _ => ⟨fun _ => h, fun z => absurd z (by decide)⟩, fun z => absurd z (by decide)⟩, fun z => absurd z (by decide)⟩, fun z => absurd z (by decide)⟩, fun z => absurd z (by decide)⟩, fun z => absurd z (by decide)⟩, fun z => absurd z (by decide)⟩, fun z => absurd z (by decide)⟩⟩, fun _ => ⟨fun w => absurd w (by decide), fun w => absurd w (by decide), fun w => absurd w (by decide), fun w => absurd w (by decide), fun w => absurd w (by decide), fun w => absurd w (by decide)⟩⟩
theorem tr_1 : trs A f 1 := ⟨0, by decide, fun I F hA Post h => ⟨fun z => absurd z (by decide), fun z => absurd z (by decide), fun z => absurd z (by decide), fun z => absurd z (by decide), fun z => absurd z (by decide), fun z => absurd z (by decide), fun z => absurd z (by decide), fun _ => h⟩, fun J G hB Post h => ⟨fun z => absurd z (by decide), fun _ => ⟨fun _ => ⟨fun _ => ⟨fun _ => ⟨fun _ => ⟨fun _ => ⟨fun _ => ⟨fun _ => ⟨fun _ => h, fun z => absurd z (by decide)⟩, fun z => absurd z (by decide)⟩, fun z => absurd z (by decide)⟩, fun z => absurd z (by decide)⟩, fun z => absurd z (by decide)⟩, fun z => absurd z (by decide)⟩, fun z => absurd z (by decide)⟩, fun z => absurd z (by decide)⟩⟩, fun _ => ⟨fun w => absurd w (by decide), fun w => absurd w (by decide), fun w => absurd w (by decide), fun w => absurd w (by decide), fun w => absurd w (by decide), fun w => absurd w (by decide)⟩⟩
theorem tr_2 : trs A f 2 := ⟨0, by decide, fun I F hA Post h => ⟨fun z => absurd z (by decide), fun z => absurd z (by decide), fun z => absurd z (by decide), fun z => absurd z (by decide), fun z => absurd z (by decide), fun z => absurd z (by decide), fun z => absurd z (by decide), fun _ => h⟩, fun J G hB Post h => ⟨fun z => absurd z (by decide), fun _ => ⟨fun _ => ⟨fun _ => ⟨fun _ => ⟨fun _ => ⟨fun _ => ⟨fun _ => ⟨fun _ => ⟨fun _ => h, fun z => absurd z (by decide)⟩, fun z => absurd z (by decide)⟩, fun z => absurd z (by decide)⟩, fun z => absurd z (by decide)⟩, fun z => absurd z (by decide)⟩, fun z => absurd z (by decide)⟩, fun z => absurd z (by decide)⟩, fun z => absurd z (by decide)⟩⟩, fun _ => ⟨fun w => absurd w (by decide), fun w => absurd w (by decide), fun w => absurd w (by decide), fun w => absurd w (by decide), fun w => absurd w (by decide), fun w => absurd w (by decide)⟩⟩
theorem tr_3 : trs A f 3 := ⟨0, by decide, fun I F hA Post h => ⟨fun z => absurd z (by decide), fun z => absurd z (by decide), fun z => absurd z (by decide), fun z => absurd z (by decide), fun z => absurd z (by decide), fun z => absurd z (by decide), fun z => absurd z (by decide), fun _ => h⟩, fun J G hB Post h => ⟨fun z => absurd z (by decide), fun _ => ⟨fun _ => ⟨fun _ => ⟨fun _ => ⟨fun _ => ⟨fun _ => ⟨fun _ => ⟨fun _ => ⟨fun _ => h, fun z => absurd z (by decide)⟩, fun z => absurd z (by decide)⟩, fun z => absurd z (by decide)⟩, fun z => absurd z (by decide)⟩, fun z => absurd z (by decide)⟩, fun z => absurd z (by decide)⟩, fun z => absurd z (by decide)⟩, fun z => absurd z (by decide)⟩⟩, fun _ => ⟨fun w => absurd w (by decide), fun w => absurd w (by decide), fun w => absurd w (by decide), fun w => absurd w (by decide), fun w => absurd w (by decide), fun w => absurd w (by decide)⟩⟩
theorem tr_4 : trs A f 4 := ⟨0, by decide, fun I F hA Post h => ⟨fun z => absurd z (by decide), fun z => absurd z (by decide), fun z => absurd z (by decide), fun z => absurd z (by decide), fun z => absurd z (by decide), fun z => absurd z (by decide), fun z => absurd z (by decide), fun _ => h⟩, fun J G hB Post h => ⟨fun z => absurd z (by decide), fun _ => ⟨fun _ => ⟨fun _ => ⟨fun _ => ⟨fun _ => ⟨fun _ => ⟨fun _ => ⟨fun _ => ⟨fun _ => h, fun z => absurd z (by decide)⟩, fun z => absurd z (by decide)⟩, fun z => absurd z (by decide)⟩, fun z => absurd z (by decide)⟩, fun z => absurd z (by decide)⟩, fun z => absurd z (by decide)⟩, fun z => absurd z (by decide)⟩, fun z => absurd z (by decide)⟩⟩, fun _ => ⟨fun w => absurd w (by decide), fun w => absurd w (by decide), fun w => absurd w (by decide), fun w => absurd w (by decide), fun w => absurd w (by decide), fun w => absurd w (by decide)⟩⟩
theorem tr_5 : trs A f 5 := ⟨0, by decide, fun I F hA Post h => ⟨fun z => absurd z (by decide), fun z => absurd z (by decide), fun z => absurd z (by decide), fun z => absurd z (by decide), fun z => absurd z (by decide), fun z => absurd z (by decide), fun z => absurd z (by decide), fun _ => h⟩, fun J G hB Post h => ⟨fun z => absurd z (by decide), fun _ => ⟨fun _ => ⟨fun _ => ⟨fun _ => ⟨fun _ => ⟨fun _ => ⟨fun _ => ⟨fun _ => ⟨fun _ => h, fun z => absurd z (by decide)⟩, fun z => absurd z (by decide)⟩, fun z => absurd z (by decide)⟩, fun z => absurd z (by decide)⟩, fun z => absurd z (by decide)⟩, fun z => absurd z (by decide)⟩, fun z => absurd z (by decide)⟩, fun z => absurd z (by decide)⟩⟩, fun _ => ⟨fun w => absurd w (by decide), fun w => absurd w (by decide), fun w => absurd w (by decide), fun w => absurd w (by decide), fun w => absurd w (by decide), fun w => absurd w (by decide)⟩⟩
theorem tr_6 : trs A f 6 := ⟨0, by decide, fun I F hA Post h => ⟨fun z => absurd z (by decide), fun z => absurd z (by decide), fun z => absurd z (by decide), fun z => absurd z (by decide), fun z => absurd z (by decide), fun z => absurd z (by decide), fun z => absurd z (by decide), fun _ => h⟩, fun J G hB Post h => ⟨fun z => absurd z (by decide), fun _ => ⟨fun _ => ⟨fun _ => ⟨fun _ => ⟨fun _ => ⟨fun _ => ⟨fun _ => ⟨fun _ => ⟨fun _ => h, fun z => absurd z (by decide)⟩, fun z => absurd z (by decide)⟩, fun z => absurd z (by decide)⟩, fun z => absurd z (by decide)⟩, fun z => absurd z (by decide)⟩, fun z => absurd z (by decide)⟩, fun z => absurd z (by decide)⟩, fun z => absurd z (by decide)⟩⟩, fun _ => ⟨fun w => absurd w (by decide), fun w => absurd w (by decide), fun w => absurd w (by decide), fun w => absurd w (by decide), fun w => absurd w (by decide), fun w => absurd w (by decide)⟩⟩
theorem tr_7 : trs A f 7 := ⟨0, by decide, fun I F hA Post h => ⟨fun z => absurd z (by decide), fun z => absurd z (by decide), fun z => absurd z (by decide), fun z => absurd z (by decide), fun z => absurd z (by decide), fun z => absurd z (by decide), fun z => absurd z (by decide), fun _ => h⟩, fun J G hB Post h => ⟨fun z => absurd z (by decide), fun _ => ⟨fun _ => ⟨fun _ => ⟨fun _ => ⟨fun _ => ⟨fun _ => ⟨fun _ => ⟨fun _ => ⟨fun _ => h, fun z => absurd z (by decide)⟩, fun z => absurd z (by decide)⟩, fun z => absurd z (by decide)⟩, fun z => absurd z (by decide)⟩, fun z => absurd z (by decide)⟩, fun z => absurd z (by decide)⟩, fun z => absurd z (by decide)⟩, fun z => absurd z (by decide)⟩⟩, fun _ => ⟨fun w => absurd w (by decide), fun w => absurd w (by decide), fun w => absurd w (by decide), fun w => absurd w (by decide), fun w => absurd w (by decide), fun w => absurd w (by decide)⟩⟩
theorem tr_14 : trs A f 14 := ⟨0, by decide, fun I F hA Post h => ⟨fun z => absurd z (by decide), fun z => absurd z (by decide), fun z => absurd z (by decide), fun z => absurd z (by decide), fun z => absurd z (by decide), fun z => absurd z (by decide), fun z => absurd z (by decide), fun _ => h⟩, fun J G hB Post h => ⟨fun z => absurd z (by decide), fun _ => ⟨fun _ => ⟨fun _ => ⟨fun _ => ⟨fun _ => ⟨fun _ => ⟨fun _ => ⟨fun _ => ⟨fun _ => h, fun z => absurd z (by decide)⟩, fun z => absurd z (by decide)⟩, fun z => absurd z (by decide)⟩, fun z => absurd z (by decide)⟩, fun z => absurd z (by decide)⟩, fun z => absurd z (by decide)⟩, fun z => absurd z (by decide)⟩, fun z => absurd z (by decide)⟩⟩, fun _ => ⟨fun w => absurd w (by decide), fun w => absurd w (by decide), fun w => absurd w (by decide), fun w => absurd w (by decide), fun w => absurd w (by decide), fun w => absurd w (by decide)⟩⟩
theorem tr_15 : trs A f 15 := ⟨0, by decide, fun I F hA Post h => ⟨fun z => absurd z (by decide), fun z => absurd z (by decide), fun z => absurd z (by decide), fun z => absurd z (by decide), fun z => absurd z (by decide), fun z => absurd z (by decide), fun z => absurd z (by decide), fun _ => h⟩, fun J G hB Post h => ⟨fun z => absurd z (by decide), fun _ => ⟨fun _ => ⟨fun _ => ⟨fun _ => ⟨fun _ => ⟨fun _ => ⟨fun _ => ⟨fun _ => ⟨fun _ => h, fun z => absurd z (by decide)⟩, fun z => absurd z (by decide)⟩, fun z => absurd z (by decide)⟩, fun z => absurd z (by decide)⟩, fun z => absurd z (by decide)⟩, fun z => absurd z (by decide)⟩, fun z => absurd z (by decide)⟩, fun z => absurd z (by decide)⟩⟩, fun _ => ⟨fun w => absurd w (by decide), fun w => absurd w (by decide), fun w => absurd w (by decide), fun w => absurd w (by decide), fun w => absurd w (by decide), fun w => absurd w (by decide)⟩⟩
theorem tr_16 : trs A f 16 := ⟨0, by decide, fun I F hA Post h => ⟨fun z => absurd z (by decide), fun z => absurd z (by decide), fun z => absurd z (by decide), fun z => absurd z (by decide), fun z => absurd z (by decide), fun z => absurd z (by decide), fun z => absurd z (by decide), fun _ => h⟩, fun J G hB Post h => ⟨fun z => absurd z (by decide), fun _ => ⟨fun _ => ⟨fun _ => ⟨fun _ => ⟨fun _ => ⟨fun _ => ⟨fun _ => ⟨fun _ => ⟨fun _ => h, fun z => absurd z (by decide)⟩, fun z => absurd z (by decide)⟩, fun z => absurd z (by decide)⟩, fun z => absurd z (by decide)⟩, fun z => absurd z (by decide)⟩, fun z => absurd z (by decide)⟩, fun z => absurd z (by decide)⟩, fun z => absurd z (by decide)⟩⟩, fun _ => ⟨fun w => absurd w (by decide), fun w => absurd w (by decide), fun w => absurd w (by decide), fun w => absurd w (by decide), fun w => absurd w (by decide), fun w => absurd w (by decide)⟩⟩
theorem tr_17 : trs A f 17 := ⟨0, by decide, fun I F hA Post h => ⟨fun z => absurd z (by decide), fun z => absurd z (by decide), fun z => absurd z (by decide), fun z => absurd z (by decide), fun z => absurd z (by decide), fun z => absurd z (by decide), fun z => absurd z (by decide), fun _ => h⟩, fun J G hB Post h => ⟨fun z => absurd z (by decide), fun _ => ⟨fun _ => ⟨fun _ => ⟨fun _ => ⟨fun _ => ⟨fun _ => ⟨fun _ => ⟨fun _ => ⟨fun _ => h, fun z => absurd z (by decide)⟩, fun z => absurd z (by decide)⟩, fun z => absurd z (by decide)⟩, fun z => absurd z (by decide)⟩, fun z => absurd z (by decide)⟩, fun z => absurd z (by decide)⟩, fun z => absurd z (by decide)⟩, fun z => absurd z (by decide)⟩⟩, fun _ => ⟨fun w => absurd w (by decide), fun w => absurd w (by decide), fun w => absurd w (by decide), fun w => absurd w (by decide), fun w => absurd w (by decide), fun w => absurd w (by decide)⟩⟩
theorem tr_18 : trs A f 18 := ⟨0, by decide, fun I F hA Post h => ⟨fun z => absurd z (by decide), fun z => absurd z (by decide), fun z => absurd z (by decide), fun z => absurd z (by decide), fun z => absurd z (by decide), fun z => absurd z (by decide), fun z => absurd z (by decide), fun _ => h⟩, fun J G hB Post h => ⟨fun z => absurd z (by decide), fun _ => ⟨fun _ => ⟨fun _ => ⟨fun _ => ⟨fun _ => ⟨fun _ => ⟨fun _ => ⟨fun _ => ⟨fun _ => h, fun z => absurd z (by decide)⟩, fun z => absurd z (by decide)⟩, fun z => absurd z (by decide)⟩, fun z => absurd z (by decide)⟩, fun z => absurd z (by decide)⟩, fun z => absurd z (by decide)⟩, fun z => absurd z (by decide)⟩, fun z => absurd z (by decide)⟩⟩, fun _ => ⟨fun w => absurd w (by decide), fun w => absurd w (by decide), fun w => absurd w (by decide), fun w => absurd w (by decide), fun w => absurd w (by decide), fun w => absurd w (by decide)⟩⟩
theorem tr_19 : trs A f 19 := ⟨0, by decide, fun I F hA Post h => ⟨fun z => absurd z (by decide), fun z => absurd z (by decide), fun z => absurd z (by decide), fun z => absurd z (by decide), fun z => absurd z (by decide), fun z => absurd z (by decide), fun z => absurd z (by decide), fun _ => h⟩, fun J G hB Post h => ⟨fun z => absurd z (by decide), fun _ => ⟨fun _ => ⟨fun _ => ⟨fun _ => ⟨fun _ => ⟨fun _ => ⟨fun _ => ⟨fun _ => ⟨fun _ => h, fun z => absurd z (by decide)⟩, fun z => absurd z (by decide)⟩, fun z => absurd z (by decide)⟩, fun z => absurd z (by decide)⟩, fun z => absurd z (by decide)⟩, fun z => absurd z (by decide)⟩, fun z => absurd z (by decide)⟩, fun z => absurd z (by decide)⟩⟩, fun _ => ⟨fun w => absurd w (by decide), fun w => absurd w (by decide), fun w => absurd w (by decide), fun w => absurd w (by decide), fun w => absurd w (by decide), fun w => absurd w (by decide)⟩⟩
theorem tr_20 : trs A f 20 := ⟨0, by decide, fun I F hA Post h => ⟨fun z => absurd z (by decide), fun z => absurd z (by decide), fun z => absurd z (by decide), fun z => absurd z (by decide), fun z => absurd z (by decide), fun z => absurd z (by decide), fun z => absurd z (by decide), fun _ => h⟩, fun J G hB Post h => ⟨fun z => absurd z (by decide), fun _ => ⟨fun _ => ⟨fun _ => ⟨fun _ => ⟨fun _ => ⟨fun _ => ⟨fun _ => ⟨fun _ => ⟨fun _ => h, fun z => absurd z (by decide)⟩, fun z => absurd z (by decide)⟩, fun z => absurd z (by decide)⟩, fun z => absurd z (by decide)⟩, fun z => absurd z (by decide)⟩, fun z => absurd z (by decide)⟩, fun z => absurd z (by decide)⟩, fun z => absurd z (by decide)⟩⟩, fun _ => ⟨fun w => absurd w (by decide), fun w => absurd w (by decide), fun w => absurd w (by decide), fun w => absurd w (by decide), fun w => absurd w (by decide), fun w => absurd w (by decide)⟩⟩
theorem tr_21 : trs A f 21 := ⟨0, by decide, fun I F hA Post h => ⟨fun z => absurd z (by decide), fun z => absurd z (by decide), fun z => absurd z (by decide), fun z => absurd z (by decide), fun z => absurd z (by decide), fun z => absurd z (by decide), fun z => absurd z (by decide), fun _ => h⟩, fun J G hB Post h => ⟨fun z => absurd z (by decide), fun _ => ⟨fun _ => ⟨fun _ => ⟨fun _ => ⟨fun _ => ⟨fun _ => ⟨fun _ => ⟨fun _ => ⟨fun _ => h, fun z => absurd z (by decide)⟩, fun z => absurd z (by decide)⟩, fun z => absurd z (by decide)⟩, fun z => absurd z (by decide)⟩, fun z => absurd z (by decide)⟩, fun z => absurd z (by decide)⟩, fun z => absurd z (by decide)⟩, fun z => absurd z (by decide)⟩⟩, fun _ => ⟨fun w => absurd w (by decide), fun w => absurd w (by decide), fun w => absurd w (by decide), fun w => absurd w (by decide), fun w => absurd w (by decide), fun w => absurd w (by decide)⟩⟩
theorem tr_22 : trs A f 22 := ⟨0, by decide, fun I F hA Post h => ⟨fun z => absurd z (by decide), fun z => absurd z (by decide), fun z => absurd z (by decide), fun z => absurd z (by decide), fun z => absurd z (by decide), fun z => absurd z (by decide), fun z => absurd z (by decide), fun _ => h⟩, fun J G hB Post h => ⟨fun z => absurd z (by decide), fun _ => ⟨fun _ => ⟨fun _ => ⟨fun _ => ⟨fun _ => ⟨fun _ => ⟨fun _ => ⟨fun _ => ⟨fun _ => h, fun z => absurd z (by decide)⟩, fun z => absurd z (by decide)⟩, fun z => absurd z (by decide)⟩, fun z => absurd z (by decide)⟩, fun z => absurd z (by decide)⟩, fun z => absurd z (by decide)⟩, fun z => absurd z (by decide)⟩, fun z => absurd z (by decide)⟩⟩, fun _ => ⟨fun w => absurd w (by decide), fun w => absurd w (by decide), fun w => absurd w (by decide), fun w => absurd w (by decide), fun w => absurd w (by decide), fun w => absurd w (by decide)⟩⟩
theorem tr_24 : trs A f 24 := ⟨0, by decide, fun I F hA Post h => ⟨fun z => absurd z (by decide), fun z => absurd z (by decide), fun z => absurd z (by decide), fun z => absurd z (by decide), fun z => absurd z (by decide), fun z => absurd z (by decide), fun z => absurd z (by decide), fun _ => h⟩, fun J G hB Post h => ⟨fun z => absurd z (by decide), fun _ => ⟨fun _ => ⟨fun _ => ⟨fun _ => ⟨fun _ => ⟨fun _ => ⟨fun _ => ⟨fun _ => ⟨fun _ => h, fun z => absurd z (by decide)⟩, fun z => absurd z (by decide)⟩, fun z => absurd z (by decide)⟩, fun z => absurd z (by decide)⟩, fun z => absurd z (by decide)⟩, fun z => absurd z (by decide)⟩, fun z => absurd z (by decide)⟩, fun z => absurd z (by decide)⟩⟩, fun _ => ⟨fun w => absurd w (by decide), fun w => absurd w (by decide), fun w => absurd w (by decide), fun w => absurd w (by decide), fun w => absurd w (by decide), fun w => absurd w (by decide)⟩⟩
theorem tr_25 : trs A f 25 := ⟨0, by decide, fun I F hA Post h => ⟨fun z => absurd z (by decide), fun z => absurd z (by decide), fun z => absurd z (by decide), fun z => absurd z (by decide), fun z => absurd z (by decide), fun z => absurd z (by decide), fun z => absurd z (by decide), fun _ => h⟩, fun J G hB Post h => ⟨fun z => absurd z (by decide), fun _ => ⟨fun _ => ⟨fun _ => ⟨fun _ => ⟨fun _ => ⟨fun _ => ⟨fun _ => ⟨fun _ => ⟨fun _ => h, fun z => absurd z (by decide)⟩, fun z => absurd z (by decide)⟩, fun z => absurd z (by decide)⟩, fun z => absurd z (by decide)⟩, fun z => absurd z (by decide)⟩, fun z => absurd z (by decide)⟩, fun z => absurd z (by decide)⟩, fun z => absurd z (by decide)⟩⟩, fun _ => ⟨fun w => absurd w (by decide), fun w => absurd w (by decide), fun w => absurd w (by decide), fun w => absurd w (by decide), fun w => absurd w (by decide), fun w => absurd w (by decide)⟩⟩
theorem tr_all {o : Nat} (hf : A.1 0 = f + 1) (hb : aB A) (hH : aH A) (hY : aY (A.1 1) x A f) (ho : o ≤ 25) (he : aj_do P m o v x = some y) : trs A f o := by
  by_cases q0 : o = 0
  · subst q0
    exact tr_0
  by_cases q1 : o = 1
  · subst q1
    exact tr_1
  by_cases q2 : o = 2
  · subst q2
    exact tr_2
  by_cases q3 : o = 3
  · subst q3
    exact tr_3
  by_cases q4 : o = 4
  · subst q4
    exact tr_4
  by_cases q5 : o = 5
  · subst q5
    exact tr_5
  by_cases q6 : o = 6
  · subst q6
    exact tr_6
  by_cases q7 : o = 7
  · subst q7
    exact tr_7
  by_cases q8 : o = 8
  · subst q8
    exact tr_8 hf hb hH hY he
  by_cases q9 : o = 9
  · subst q9
    exact tr_9 hf hb hH hY he
  by_cases q10 : o = 10
  · subst q10
    exact tr_10 hf hb hH hY he
  by_cases q11 : o = 11
  · subst q11
    exact tr_11 hf hb hH hY he
  by_cases q12 : o = 12
  · subst q12
    exact tr_12 hf hb hH hY he
  by_cases q13 : o = 13
  · subst q13
    exact tr_13 hf hb hH hY he
  by_cases q14 : o = 14
  · subst q14
    exact tr_14
  by_cases q15 : o = 15
  · subst q15
    exact tr_15
  by_cases q16 : o = 16
  · subst q16
    exact tr_16
  by_cases q17 : o = 17
  · subst q17
    exact tr_17
  by_cases q18 : o = 18
  · subst q18
    exact tr_18
  by_cases q19 : o = 19
  · subst q19
    exact tr_19
  by_cases q20 : o = 20
  · subst q20
    exact tr_20
  by_cases q21 : o = 21
  · subst q21
    exact tr_21
  by_cases q22 : o = 22
  · subst q22
    exact tr_22
  by_cases q23 : o = 23
  · subst q23
    exact tr_23 hf hb hH hY
  by_cases q24 : o = 24
  · subst q24
    exact tr_24
  by_cases q25 : o = 25
  · subst q25
    exact tr_25
  omega
end TR
