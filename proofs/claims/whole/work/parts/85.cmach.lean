/-! the class's machine: frames, arrays, what is put out -/
def kF (I : SI) (F : SF) (I' : SI) (F' : SF) : Prop := (∀ i, i < 9 ∨ 12 < i → I' i = I i) ∧ ∀ j, j < 14 ∨ 22 < j → F' j = F j
theorem kF_rf {I : SI} {F : SF} : kF I F I F := ⟨fun _ _ => rfl, fun _ _ => rfl⟩
theorem kF_tr {I I1 I2 : SI} {F F1 F2 : SF} (h : kF I F I1 F1) (g : kF I1 F1 I2 F2) : kF I F I2 F2 := ⟨fun i hi => (g.1 i hi).trans (h.1 i hi), fun j hj => (g.2 j hj).trans (h.2 j hj)⟩
theorem cT_kF {P : aj_P} {I I1 : SI} {F F1 : SF} (h : cT P I F) (g : kF I F I1 F1) : cT P I1 F1 := by
  intro k hk
  obtain ⟨a1, a2, a3, a4, a5, a6, a7, a8⟩ := h k hk
  refine ⟨(g.1 _ (by omega)).trans a1, (g.1 _ (by omega)).trans a2, (g.1 _ (by omega)).trans a3, (g.1 _ (by omega)).trans a4, (g.1 _ (by omega)).trans a5, (g.1 _ (by omega)).trans a6, (g.1 _ (by omega)).trans a7, fun p hp => ⟨?_, ?_⟩⟩
  · rw [g.2 _ (by omega)]; exact (a8 p hp).1
  · rw [g.2 _ (by omega)]; exact (a8 p hp).2
theorem cB_I {A : am} {I I1 : SI} {F : SF} (h : cB A I F) (g : ∀ i, 8 < i → i < 13 → I1 i = I i) : cB A I1 F := by
  obtain ⟨a0, a1, a2, a3, a4⟩ := h
  exact ⟨(g 9 (by decide) (by decide)).trans a0, (g 10 (by decide) (by decide)).trans a1, (g 11 (by decide) (by decide)).trans a2, (g 12 (by decide) (by decide)).trans a3, a4⟩
theorem f15 (f j : Nat) : nI f * 15 + nI j = nI (15 * f + j) := by
  rw [show (15 : Int32) = nI 15 from rfl, nI_mul, nI_add, Nat.mul_comm]
theorem f10 (f j : Nat) : nI f * 10 + nI j = nI (10 * f + j) := by
  rw [show (10 : Int32) = nI 10 from rfl, nI_mul, nI_add, Nat.mul_comm]
theorem up_s (f : Nat → Int32) (k : Nat) (x : Int32) : upd f k x k = x := if_pos rfl
section CW
variable {P : aj_P} {A : am} {I : SI} {F : SF} {f : Nat} {v : Int32}
theorem cw_top {k : Nat} {Post : Int32 → SI → SF → Prop} (hA : cB A I F) (hf : A.1 0 = f + 1) (hh : aB A) (hk : k < A.2.1 2 f) : wp_Fr_fromTop (nI k) I F Post ↔ Post (A.2.2 0 f (A.2.1 2 f - 1 - k)) I F := by
  have f50 : f < 50 := by have := hh.1; omega
  have h15 := hh.2 f (by omega)
  unfold wp_Fr_fromTop
  simp only [c_uh hA hf f50, ex3]
  rw [nI_p1 (by omega), nI_sub _ _ (by omega)]
  simp only [c_on hA hf f50 h15 (show A.2.1 2 f - 1 - k < A.2.1 2 f by omega), ex3]
theorem cw_push {Post : SI → SF → Prop} (hA : cB A I F) (hf : A.1 0 = f + 1) (hh : aB A) (h15 : A.2.1 2 f < 15) (hP : ∀ F', cB (aPush A f v) I F' → kF I F I F' → Post I F') : wp_Fr_push v I F Post := by
  have f50 : f < 50 := by have := hh.1; omega
  unfold wp_Fr_push
  simp only [c_uh hA hf f50, ex3]
  rw [hA.1, hf, nI_pred, f15, cl (show f < 2 ^ 31 by omega), cl (show 15 * f + A.2.1 2 f < 2 ^ 31 by omega), nI_1]
  refine ⟨fun z => absurd z (nI_nle (by omega) (by omega)), fun _ => ⟨fun z => absurd z (nI_ge h15 (by decide)), fun _ => ⟨vp_in_nI (show 15 * f + A.2.1 2 f < 750 by omega) (by decide), vp_in_nI f50 (by decide), hP _ (cB_push hA hf hh h15) ⟨fun _ _ => rfl, fun j hj => ?_⟩⟩⟩⟩
  rw [va_up_ne _ _ (by omega), va_up_ne _ _ (by omega)]
theorem cw_pop {Post : Int32 → SI → SF → Prop} (hA : cB A I F) (hf : A.1 0 = f + 1) (hh : aB A) (h0 : 0 < A.2.1 2 f) (hP : ∀ F', cB (aPop A f) I F' → kF I F I F' → Post (aTop A f) I F') : wp_Fr_pop I F Post := by
  have f50 : f < 50 := by have := hh.1; omega
  have h15 := hh.2 f (by omega)
  obtain ⟨-, -, b3, -, b5⟩ := hA.2.2.2.2.1 f (by omega)
  unfold wp_Fr_pop
  rw [hA.1, hf, nI_pred, cl (show f < 2 ^ 31 by omega), up_s, b3, nI_p1 h0, f15, cl (show 15 * f + (A.2.1 2 f - 1) < 2 ^ 31 by omega), b5 (A.2.1 2 f - 1) (by omega)]
  have hv := vp_in_nI f50 (show 50 < 2 ^ 31 by decide)
  refine ⟨fun z => absurd z (nI_ne0 (by omega) (by omega)), fun _ => ⟨hv, fun _ => ⟨hv, hv, hv, vp_in_nI (show 15 * f + (A.2.1 2 f - 1) < 750 by omega) (by decide), hP _ (cB_pop hA) ⟨fun _ _ => rfl, fun j hj => va_up_ne _ _ (by omega)⟩⟩, fun z => absurd z (nI_ne0 h0 (by omega))⟩⟩
theorem cw_loc_e {k : Nat} {Post : SI → SF → Prop} (h9 : I 9 = nI (f + 1)) (f50 : f < 50) (hk : k < 10) (hP : Post I (va_up F 17 (upd (F 17) (10 * f + k) v))) : wp_Fr_setLocal (nI k) v I F Post := by
  unfold wp_Fr_setLocal
  simp only [ev_below, ex3, bi_y (show ¬ nI k < 0 ∧ nI k < 10 from ⟨nI_pos (by omega), nI_lt hk (by decide)⟩)]
  rw [h9, nI_pred, f10, cl (show 10 * f + k < 2 ^ 31 by omega)]
  exact ⟨fun z => absurd z (nI_nle (by omega) (by omega)), fun _ => y1 ⟨vp_in_nI (show 10 * f + k < 500 by omega) (by decide), hP⟩⟩
theorem cw_loc {k : Nat} {Post : SI → SF → Prop} (hA : cB A I F) (hf : A.1 0 = f + 1) (f50 : f < 50) (hk : k < 10) (hP : ∀ F', cB (aLoc A f k v) I F' → kF I F I F' → Post I F') : wp_Fr_setLocal (nI k) v I F Post :=
  cw_loc_e (by rw [hA.1, hf]) f50 hk (hP _ (cB_loc hA hk) ⟨fun _ _ => rfl, fun j hj => va_up_ne _ _ (by omega)⟩)
theorem cw_go {p : Nat} {Post : SI → SF → Prop} (hA : cB A I F) (hf : A.1 0 = f + 1) (f50 : f < 50) (hP : ∀ F', cB (aGo A f p) I F' → kF I F I F' → Post I F') : wp_Fr_go (nI p) I F Post := by
  unfold wp_Fr_go
  rw [hA.1, hf, nI_pred, cl (show f < 2 ^ 31 by omega)]
  exact ⟨fun z => absurd z (nI_nle (by omega) (by omega)), fun _ => ⟨vp_in_nI f50 (by decide), hP _ (cB_go hA) ⟨fun _ _ => rfl, fun j hj => va_up_ne _ _ (by omega)⟩⟩⟩
theorem cw_leave {Post : SI → SF → Prop} (hA : cB A I F) (hf : A.1 0 = f + 1) (f50 : f < 50) (hP : ∀ I', cB (aLeave A f) I' F → kF I F I' F → I' 9 = nI f → Post I' F) : wp_Fr_leave I F Post := by
  unfold wp_Fr_leave
  rw [hA.1, hf, nI_pred]
  exact ⟨fun z => absurd z (nI_nle (by omega) (by omega)), fun _ => hP _ (cB_leave hA hf) ⟨fun i hi => va_up_ne _ _ (by omega), fun _ _ => rfl⟩ rfl⟩
theorem cw_enter {m : Nat} {Post : SI → SF → Prop} (hA : cB A I F) (h50 : A.1 0 < 50) (hP : ∀ I' F', cB (aOpen A m) I' F' → kF I F I' F' → Post I' F') : wp_Fr_enter (nI m) I F Post := by
  have key : ∀ (d : Nat) {t : Nat} {F1 : SF}, t + d = 10 → (∀ r, r ≠ 14 → r ≠ 15 → r ≠ 16 → r ≠ 17 → F1 r = F r) → F1 14 = upd (F 14) (A.1 0) (nI m) → F1 15 = upd (F 15) (A.1 0) 0 → F1 16 = upd (F 16) (A.1 0) 0 → (∀ c, c < 10 * A.1 0 ∨ 10 * A.1 0 + t ≤ c → F1 17 c = F 17 c) → (∀ j, j < t → F1 17 (10 * A.1 0 + j) = 0) → wp_Fr_enter_42 Post (d + 1) (nI t) I F1 := by
    intro d
    induction d with
    | zero =>
      intro t F1 ht g0 g1 g2 g3 g4 g5
      unfold wp_Fr_enter_42
      rw [hA.1, nI_1]
      refine ⟨fun _ => hP _ _ (cB_open hA g0 g1 g2 g3 (fun c hc => g4 c (by omega)) (fun j hj => g5 j (by omega))) ⟨fun i hi => va_up_ne _ _ (by omega), fun j hj => g0 j (by omega) (by omega) (by omega) (by omega)⟩, fun z => absurd (show 10 ≤ nI t by rw [show t = 10 by omega]; decide) z⟩
    | succ d ih =>
      intro t F1 ht g0 g1 g2 g3 g4 g5
      unfold wp_Fr_enter_42
      rw [hA.1, f10, cl (show 10 * A.1 0 + t < 2 ^ 31 by omega)]
      refine ⟨fun z => absurd z (nI_ge (show t < 10 by omega) (by decide)), fun _ => ⟨vp_in_nI (show 10 * A.1 0 + t < 500 by omega) (by decide), fun x7 e7 => ?_⟩⟩
      subst e7
      rw [nI_1]
      refine ih (by omega) (fun r r1 r2 r3 r4 => (va_up_ne _ _ r4).trans (g0 r r1 r2 r3 r4)) g1 g2 g3 (fun c hc => ?_) (fun j hj => ?_)
      · exact (if_neg (by omega)).trans (g4 c (by omega))
      · by_cases w : j = t
        · subst w
          exact if_pos rfl
        · exact (if_neg (by omega)).trans (g5 j (by omega))
  have hv := vp_in_nI h50 (show 50 < 2 ^ 31 by decide)
  unfold wp_Fr_enter
  rw [hA.1, cl (show A.1 0 < 2 ^ 31 by omega)]
  refine ⟨fun _ => ⟨hv, hv, hv, 11, key 10 (t := 0) rfl (fun r r1 r2 r3 _ => ?_) rfl rfl rfl (fun c _ => rfl) (fun j hj => absurd hj (Nat.not_lt_zero _))⟩, fun z => absurd (nI_lt h50 (by decide)) z⟩
  rw [va_up_ne _ _ r3, va_up_ne _ _ r2, va_up_ne _ _ r1]
/-- the parameters from k on go from the stack of the frame f to the locals of the frame g -/
def aArgs (A : am) (f g h : Nat) : Nat → am
  | 0 => A
  | n + 1 => aLoc (aArgs A f g h n) g n (A.2.2 0 f (h + n))
theorem aArgs_0 {A : am} {f g h n : Nat} : (aArgs A f g h n).1 = A.1 ∧ (aArgs A f g h n).2.1 = A.2.1 ∧ (aArgs A f g h n).2.2 0 = A.2.2 0 ∧ (∀ i, i ≠ 1 → (aArgs A f g h n).2.2 i = A.2.2 i) ∧ (∀ i, i ≠ g → (aArgs A f g h n).2.2 1 i = A.2.2 1 i) ∧ ∀ j, (aArgs A f g h n).2.2 1 g j = if j < n then A.2.2 0 f (h + j) else A.2.2 1 g j := by
  induction n with
  | zero => exact ⟨rfl, rfl, rfl, fun _ _ => rfl, fun _ _ => rfl, fun j => (if_neg (Nat.not_lt_zero _)).symm⟩
  | succ n ih =>
    obtain ⟨h1, h2, h3, h4, h5, h6⟩ := ih
    refine ⟨h1, h2, h3, fun i hi => ?_, fun i hi => ?_, fun j => ?_⟩
    · show va_up (aArgs A f g h n).2.2 1 (va_up ((aArgs A f g h n).2.2 1) g (va_up ((aArgs A f g h n).2.2 1 g) n (A.2.2 0 f (h + n)))) i = A.2.2 i
      rw [va_up_ne _ _ hi]; exact h4 i hi
    · show va_up (aArgs A f g h n).2.2 1 (va_up ((aArgs A f g h n).2.2 1) g (va_up ((aArgs A f g h n).2.2 1 g) n (A.2.2 0 f (h + n)))) 1 i = A.2.2 1 i
      rw [va_up_self, va_up_ne _ _ hi]; exact h5 i hi
    · show va_up (aArgs A f g h n).2.2 1 (va_up ((aArgs A f g h n).2.2 1) g (va_up ((aArgs A f g h n).2.2 1 g) n (A.2.2 0 f (h + n)))) 1 g j = if j < n + 1 then A.2.2 0 f (h + j) else A.2.2 1 g j
      rw [va_up_self, va_up_self]
      by_cases w : j = n
      · subst w
        rw [va_up_self, if_pos (by omega)]
      · rw [va_up_ne _ _ w, h6 j]
        by_cases w2 : j < n
        · rw [if_pos w2, if_pos (by omega)]
        · rw [if_neg w2, if_neg (by omega)]
/-- a call: a frame for m, with its first n locals from the caller's stack -/
def aCall (A : am) (f m n : Nat) : am := aArgs ((aOpen A m).1, va_up (aOpen A m).2.1 2 (va_up ((aOpen A m).2.1 2) f (A.2.1 2 f - n)), (aOpen A m).2.2) f (f + 1) (A.2.1 2 f - n) n
theorem cw_enterWith {m n : Nat} {Post : SI → SF → Prop} (hA : cB A I F) (hf : A.1 0 = f + 1) (hh : aB A) (h50 : f + 1 < 50) (hn : n ≤ A.2.1 2 f) (hn4 : n ≤ 4) (hP : ∀ I' F', cB (aCall A f m n) I' F' → kF I F I' F' → Post I' F') : wp_Fr_enterWith (nI m) (nI n) I F Post := by
  have h15 := hh.2 f (by omega)
  obtain ⟨-, -, b3, -, b5⟩ := hA.2.2.2.2.1 f (by omega)
  have cf : (nI f).toNatClampNeg = f := cl (by omega)
  have hv := vp_in_nI (show f < 50 by omega) (show 50 < 2 ^ 31 by decide)
  unfold wp_Fr_enterWith
  intro x1 e1
  rw [hA.1, hf, nI_pred] at e1
  subst e1
  rw [hA.1, hf, cf, b3]
  refine ⟨fun z => absurd z (nI_ne0 (by omega) (by omega)), fun _ => ⟨fun z => absurd z (nI_ge h50 (by decide)), fun _ => ⟨hv, fun _ => ⟨_, cw_enter hA (by omega) ?_, fun _ _ q => q⟩, fun z => absurd (nI_le hn (by omega)) z⟩⟩⟩
  intro I1 F1 g1 k1
  have e16 : F1 16 f = nI (A.2.1 2 f) := by
    have := (g1.2.2.2.2.1 f (by show f < A.1 0 + 1; omega)).2.2.1
    rw [this]
    show nI (va_up (A.2.1 2) (A.1 0) 0 f) = _
    rw [va_up_ne _ _ (by omega)]
  have hfo : (aOpen A m).1 0 = f + 1 + 1 := by
    show A.1 0 + 1 = _
    omega
  refine ⟨hv, hv, n + 1, ?_⟩
  rw [e16, nI_sub _ _ hn]
  -- the caller's height
  have g2 : cB ((aOpen A m).1, va_up (aOpen A m).2.1 2 (va_up ((aOpen A m).2.1 2) f (A.2.1 2 f - n)), (aOpen A m).2.2) I1 (va_up F1 16 (upd (F1 16) f (nI (A.2.1 2 f - n)))) := by
    obtain ⟨a0, a1, a2, a3, a4, a5, a6, a7⟩ := g1
    refine ⟨a0, a1, a2, a3, fun i hi => ?_, a5, a6, a7⟩
    obtain ⟨c1, c2, c3, c4, c5⟩ := a4 i hi
    refine ⟨c1, c2, ?_, c4, fun j hj => c5 j ?_⟩
    · show upd (F1 16) f (nI (A.2.1 2 f - n)) i = nI (va_up ((aOpen A m).2.1 2) f (A.2.1 2 f - n) i)
      by_cases w : i = f
      · rw [w, va_up_self]; exact if_pos rfl
      · rw [va_up_ne _ _ w]; exact (if_neg w).trans c3
    · have hj : j < va_up ((aOpen A m).2.1 2) f (A.2.1 2 f - n) i := hj
      by_cases w : i = f
      · rw [w, va_up_self] at hj
        rw [w]
        show j < va_up (A.2.1 2) (A.1 0) 0 f
        rw [va_up_ne _ _ (by omega)]
        omega
      · rw [va_up_ne _ _ w] at hj
        exact hj
  have k2 : kF I F I1 (va_up F1 16 (upd (F1 16) f (nI (A.2.1 2 f - n)))) := ⟨k1.1, fun j hj => (va_up_ne _ _ (by omega)).trans (k1.2 j hj)⟩
  have e18 : ∀ j, j < A.2.1 2 f → F1 18 (15 * f + j) = A.2.2 0 f j := fun j hj => (g1.2.2.2.2.1 f (by show f < A.1 0 + 1; omega)).2.2.2.2 j (by
    show j < va_up (A.2.1 2) (A.1 0) 0 f
    rw [va_up_ne _ _ (by omega)]
    exact hj)
  have key : ∀ (d : Nat) {t : Nat} {F2 : SF}, t + d = n → cB (aArgs ((aOpen A m).1, va_up (aOpen A m).2.1 2 (va_up ((aOpen A m).2.1 2) f (A.2.1 2 f - n)), (aOpen A m).2.2) f (f + 1) (A.2.1 2 f - n) t) I1 F2 → kF I F I1 F2 → F2 16 f = nI (A.2.1 2 f - n) → (∀ j, j < A.2.1 2 f → F2 18 (15 * f + j) = A.2.2 0 f j) → wp_Fr_enterWith_52 Post (d + 1) (nI n) (nI f) (nI t) I1 F2 := by
    intro d
    induction d with
    | zero =>
      intro t F2 ht q1 q2 _ _
      unfold wp_Fr_enterWith_52
      have : t = n := by omega
      subst this
      exact ⟨fun _ => hP I1 F2 q1 q2, fun z => absurd (nI_le (Nat.le_refl _) (by omega)) z⟩
    | succ d ih =>
      intro t F2 ht q1 q2 q3 q4
      unfold wp_Fr_enterWith_52
      rw [cf, q3, f15, nI_add, cl (show 15 * f + (A.2.1 2 f - n) + t < 2 ^ 31 by omega), show 15 * f + (A.2.1 2 f - n) + t = 15 * f + (A.2.1 2 f - n + t) by omega, q4 (A.2.1 2 f - n + t) (by omega), nI_1]
      refine ⟨fun z => absurd z (nI_ge (show t < n by omega) (by omega)), fun _ => ⟨hv, vp_in_nI (show 15 * f + (A.2.1 2 f - n + t) < 750 by omega) (by decide), _, cw_loc_e (f := f + 1) ?_ h50 (show t < 10 by omega) ?_, fun _ _ q => q⟩⟩
      · rw [q1.1, aArgs_0.1, hfo]
      · intro x13 e13
        subst e13
        exact ih (by omega) (cB_loc (v := A.2.2 0 f (A.2.1 2 f - n + t)) q1 (show t < 10 by omega)) (kF_tr q2 ⟨fun _ _ => rfl, fun j hj => va_up_ne _ _ (by omega)⟩) q3 q4
  exact key n (t := 0) (by omega) g2 k2 (up_s _ _ _) e18
theorem cw_room {p : Int32} {Post : Int32 → SI → SF → Prop} (hA : cB A I F) (hH : aH A) : wp_He_hasRoom p I F Post ↔ Post (bi (A.1 1 < 200 ∧ ¬ (2000 : Int32) - nI (A.1 2) < p)) I F := by
  have := hH.1
  have c : (200 : Int32) ≤ nI (A.1 1) ↔ 200 ≤ A.1 1 := nI_leI (by decide) (by omega)
  unfold wp_He_hasRoom
  rw [hA.2.1, hA.2.2.1, c]
  by_cases q : 200 ≤ A.1 1
  · rw [bi_n (fun w => by omega)]
    exact ⟨fun z => z.1 q, fun z => ⟨fun _ => z, fun w => absurd q w⟩⟩
  · by_cases q2 : (2000 : Int32) - nI (A.1 2) < p
    · rw [bi_n (fun w => w.2 q2)]
      exact ⟨fun z => (z.2 q).1 q2, fun z => ⟨fun w => absurd w q, fun _ => ⟨fun _ => z, fun w => absurd q2 w⟩⟩⟩
    · rw [bi_y ⟨by omega, q2⟩]
      exact ⟨fun z => (z.2 q).2 q2, fun z => ⟨fun w => absurd w q, fun _ => ⟨fun w => absurd w q2, fun _ => z⟩⟩⟩
theorem room_n {c n : Nat} (hc : c ≤ 2000) (hn : n < 2 ^ 31) : (2000 : Int32) - nI c < nI n ↔ 2000 < c + n := by
  have e : (2000 : Int32) - nI c = nI (2000 - c) := nI_sub 2000 c hc
  rw [e, nI_ltI (by omega) hn]
  omega
theorem cw_make {n : Nat} {Post : Int32 → SI → SF → Prop} (hA : cB A I F) (hH : aH A) (h2 : A.1 1 < 200) (hn : A.1 2 + n ≤ 2000) (hP : ∀ I' F', cB (aMake A n) I' F' → kF I F I' F' → Post (nI (A.1 1)) I' F') : wp_He_make (nI n) I F Post := by
  have hc := hH.2.1
  have key : ∀ (d : Nat) {t : Nat} {F1 : SF}, t + d = n → (∀ r, r ≠ 19 → r ≠ 20 → r ≠ 21 → F1 r = F r) → F1 19 = upd (F 19) (A.1 1) (nI (A.1 2)) → F1 20 = upd (F 20) (A.1 1) (nI n) → (∀ c, c < A.1 2 → F1 21 c = F 21 c) → (∀ j, j < t → F1 21 (A.1 2 + j) = 0) → wp_He_make_39 Post (d + 1) (nI n) (nI t) I F1 := by
    intro d
    induction d with
    | zero =>
      intro t F1 ht g0 g1 g2 g3 g4
      unfold wp_He_make_39
      rw [hA.2.1, hA.2.2.1, nI_add, nI_1, nI_pred]
      exact ⟨fun _ => hP _ _ (cB_make hA hH g0 g1 g2 g3 (fun j hj => g4 j (by omega))) ⟨fun i hi => by rw [va_up_ne _ _ (by omega), va_up_ne _ _ (by omega)], fun j hj => g0 j (by omega) (by omega) (by omega)⟩, fun z => absurd (nI_le (by omega) (by omega)) z⟩
    | succ d ih =>
      intro t F1 ht g0 g1 g2 g3 g4
      unfold wp_He_make_39
      rw [hA.2.2.1, nI_add, nI_add, cl (show A.1 2 + t < 2 ^ 31 by omega), nI_1]
      refine ⟨fun z => absurd z (nI_ge (show t < n by omega) (by omega)), fun _ => ⟨vp_in_nI (show A.1 2 + t < 2000 by omega) (by decide), fun x8 e8 => ?_⟩⟩
      subst e8
      refine ih (by omega) (fun r r1 r2 r3 => (va_up_ne _ _ r3).trans (g0 r r1 r2 r3)) g1 g2 (fun c hc => ?_) (fun j hj => ?_)
      · exact (if_neg (by omega)).trans (g3 c hc)
      · by_cases w : j = t
        · subst w
          exact if_pos rfl
        · exact (if_neg (by omega)).trans (g4 j (by omega))
  have hv := vp_in_nI h2 (show 200 < 2 ^ 31 by decide)
  unfold wp_He_make
  simp only [cw_room hA hH, ex3, bi_y (show A.1 1 < 200 ∧ ¬ (2000 : Int32) - nI (A.1 2) < nI n from ⟨h2, fun w => by have := (room_n hc (by omega)).mp w; omega⟩)]
  rw [hA.2.1, hA.2.2.1, cl (show A.1 1 < 2 ^ 31 by omega)]
  refine ⟨fun z => absurd z (nI_pos (by omega)), fun _ => z1 ⟨hv, hv, n + 1, key n (t := 0) (by omega) (fun r r1 r2 _ => ?_) rfl rfl (fun c _ => rfl) (fun j hj => absurd hj (Nat.not_lt_zero _))⟩⟩
  rw [va_up_ne _ _ r2, va_up_ne _ _ r1]
theorem cw_write {a j : Nat} {Post : SI → SF → Prop} (hA : cB A I F) (hH : aH A) (ha : a < A.1 1) (hj : j < A.2.1 4 a) (hP : ∀ F', cB (aCell A (A.2.1 3 a + j) v) I F' → kF I F I F' → Post I F') : wp_He_write (nI a) (nI j) v I F Post := by
  have h1 := hH.1
  have h2 := hH.2.1
  have h3 := hH.2.2 a ha
  unfold wp_He_write
  simp only [c_hcell hA hH ha, ex3, bi_y (show ¬ nI j < 0 ∧ nI j < nI (A.2.1 4 a) from ⟨nI_pos (by omega), nI_lt hj (by omega)⟩), cl (show a < 2 ^ 31 by omega), (c_hlen hA ha).2, nI_add, cl (show A.2.1 3 a + j < 2 ^ 31 by omega)]
  exact y1 ⟨vp_in_nI (show a < 200 by omega) (by decide), vp_in_nI (show A.2.1 3 a + j < 2000 by omega) (by decide), hP _ (cB_cell hA) ⟨fun _ _ => rfl, fun j hj => va_up_ne _ _ (by omega)⟩⟩
theorem cw_out {Post : SI → SF → Prop} (hA : cB A I F) (h3 : A.1 3 < 2 ^ 30) (hP : ∀ I' F', cB (aOut A v) I' F' → kF I F I' F' → Post I' F') : wp_Ou_append v I F Post := by
  have hlt : A.1 3 % 100 < 100 := Nat.mod_lt _ (by decide)
  unfold wp_Ou_append
  rw [hA.2.2.2.1]
  simp only [ev_fm (show A.1 3 < 2 ^ 31 by omega), ex3, cl (show A.1 3 % 100 < 2 ^ 31 by omega)]
  rw [hA.2.2.2.1, nI_1]
  exact ⟨vp_in_nI hlt (by decide), hP _ _ (cB_out hA) ⟨fun i hi => va_up_ne _ _ (by omega), fun j hj => va_up_ne _ _ (by omega)⟩⟩
end CW
