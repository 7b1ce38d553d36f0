/-! a step: what it does to the uppermost frame, and that it keeps what the judge knows -/
def aY (d : Nat) (y : aj_S) (A : am) (f : Nat) : Prop := y.1 = A.2.1 2 f ∧ (∀ j, j < y.1 → aV d (y.2.1 j) (A.2.2 0 f j)) ∧ ∀ j, j < 10 → aV d (y.2.2 j) (A.2.2 1 f j)
theorem aV_le {d e t : Nat} {v : Int32} (h : d ≤ e) (g : aV d t v) : aV e t v := fun q => (g q).imp id (fun w z => w (z.imp id (fun u => by omega)))
theorem aV_1 {d : Nat} {v : Int32} : aV d 1 v := fun h => absurd h (by decide)
theorem aV_0 {d : Nat} {v : Int32} : aV d 0 v := fun h => absurd h (by decide)
theorem aY_le {d e : Nat} {y : aj_S} {A : am} {f : Nat} (h : d ≤ e) (g : aY d y A f) : aY e y A f := ⟨g.1, fun j hj => aV_le h (g.2.1 j hj), fun j hj => aV_le h (g.2.2 j hj)⟩
section AY
variable {d f t k p n q : Nat} {x y : aj_S} {A : am} {v : Int32}
theorem aY_pop (h : aY d x A f) (e : aj_pop t x = some y) : aY d y (aPop A f) f ∧ 0 < A.2.1 2 f ∧ (t = 0 ∨ aV d t (aTop A f)) ∧ aV d (x.2.1 (x.1 - 1)) (aTop A f) := by
  obtain ⟨e1, e2, rfl⟩ := aj_pop_s e
  obtain ⟨h1, h2, h3⟩ := h
  have ht : aV d (x.2.1 (x.1 - 1)) (aTop A f) := by
    have := h2 (x.1 - 1) (by omega)
    rw [h1] at this ⊢
    exact this
  refine ⟨⟨?_, fun j hj => h2 j (by have : j < x.1 - 1 := hj; omega), h3⟩, by omega, e2.imp id (fun w => by rw [← w]; exact ht), ht⟩
  show x.1 - 1 = va_up (A.2.1 2) f (A.2.1 2 f - 1) f
  rw [va_up_self, h1]
theorem aY_push (h : aY d x A f) (hv : aV d t v) : aY d (x.1 + 1, va_up x.2.1 x.1 t, x.2.2) (aPush A f v) f := by
  obtain ⟨h1, h2, h3⟩ := h
  refine ⟨?_, fun j hj => ?_, h3⟩
  · show x.1 + 1 = va_up (A.2.1 2) f (A.2.1 2 f + 1) f
    rw [va_up_self, h1]
  · have hj : j < x.1 + 1 := hj
    show aV d (va_up x.2.1 x.1 t j) (va_up (A.2.2 0) f (va_up (A.2.2 0 f) (A.2.1 2 f) v) f j)
    rw [va_up_self, ← h1]
    by_cases w : j = x.1
    · rw [w, va_up_self, va_up_self]; exact hv
    · rw [va_up_ne _ _ w, va_up_ne _ _ w]; exact h2 j (by omega)
theorem aY_loc (h : aY d x A f) (hv : aV d t v) : aY d (x.1, x.2.1, va_up x.2.2 k t) (aLoc A f k v) f := by
  obtain ⟨h1, h2, h3⟩ := h
  refine ⟨h1, h2, fun j hj => ?_⟩
  show aV d (va_up x.2.2 k t j) (va_up (A.2.2 1) f (va_up (A.2.2 1 f) k v) f j)
  rw [va_up_self]
  by_cases w : j = k
  · rw [w, va_up_self, va_up_self]; exact hv
  · rw [va_up_ne _ _ w, va_up_ne _ _ w]; exact h3 j hj
end AY
/-- what a step that is no call and no return leaves as it is -/
def fr (A A' : am) (f : Nat) : Prop := A'.1 0 = A.1 0 ∧ A'.2.1 0 = A.2.1 0 ∧ (∀ i, i < f → A'.2.1 1 i = A.2.1 1 i ∧ A'.2.1 2 i = A.2.1 2 i ∧ A'.2.2 0 i = A.2.2 0 i ∧ A'.2.2 1 i = A.2.2 1 i) ∧ A.1 1 ≤ A'.1 1 ∧ (aH A → aH A') ∧ A'.1 4 = A.1 4 ∧ A'.1 5 = A.1 5 ∧ A'.2.2 4 = A.2.2 4
theorem fr_rf {A : am} {f : Nat} : fr A A f := ⟨rfl, rfl, fun _ _ => ⟨rfl, rfl, rfl, rfl⟩, Nat.le_refl _, id, rfl, rfl, rfl⟩
theorem fr_tr {A B C : am} {f : Nat} (h : fr A B f) (g : fr B C f) : fr A C f := by
  obtain ⟨h1, h2, h3, h4, h5, h6, h7, h8⟩ := h
  obtain ⟨g1, g2, g3, g4, g5, g6, g7, g8⟩ := g
  refine ⟨g1.trans h1, g2.trans h2, fun i hi => ?_, Nat.le_trans h4 g4, fun q => g5 (h5 q), g6.trans h6, g7.trans h7, g8.trans h8⟩
  obtain ⟨a1, a2, a3, a4⟩ := h3 i hi
  obtain ⟨b1, b2, b3, b4⟩ := g3 i hi
  exact ⟨b1.trans a1, b2.trans a2, b3.trans a3, b4.trans a4⟩
section FR
variable {f k p n q : Nat} {A : am} {v : Int32}
theorem fr_pop : fr A (aPop A f) f := ⟨rfl, rfl, fun i hi => ⟨rfl, va_up_ne _ _ (by omega), rfl, rfl⟩, Nat.le_refl _, id, rfl, rfl, rfl⟩
theorem fr_push : fr A (aPush A f v) f := ⟨rfl, rfl, fun i hi => ⟨rfl, va_up_ne _ _ (by omega), va_up_ne _ _ (by omega), rfl⟩, Nat.le_refl _, id, rfl, rfl, rfl⟩
theorem fr_loc : fr A (aLoc A f k v) f := ⟨rfl, rfl, fun i hi => ⟨rfl, rfl, rfl, va_up_ne _ _ (by omega)⟩, Nat.le_refl _, id, rfl, rfl, rfl⟩
theorem fr_go : fr A (aGo A f p) f := ⟨rfl, rfl, fun i hi => ⟨va_up_ne _ _ (by omega), rfl, rfl, rfl⟩, Nat.le_refl _, id, rfl, rfl, rfl⟩
theorem fr_cell : fr A (aCell A q v) f := ⟨rfl, rfl, fun i hi => ⟨rfl, rfl, rfl, rfl⟩, Nat.le_refl _, id, rfl, rfl, rfl⟩
theorem fr_out : fr A (aOut A v) f := ⟨rfl, rfl, fun i hi => ⟨rfl, rfl, rfl, rfl⟩, Nat.le_refl _, id, rfl, rfl, rfl⟩
theorem aH_make (h : aH A) (h2 : A.1 1 < 200) (hn : A.1 2 + n ≤ 2000) : aH (aMake A n) := by
  obtain ⟨a1, a2, a3⟩ := h
  refine ⟨by show A.1 1 + 1 ≤ 200; omega, hn, fun i hi => ?_⟩
  have hi : i < A.1 1 + 1 := hi
  show va_up (A.2.1 3) (A.1 1) (A.1 2) i + va_up (A.2.1 4) (A.1 1) n i ≤ A.1 2 + n
  by_cases w : i = A.1 1
  · rw [w, va_up_self, va_up_self]; exact Nat.le_refl _
  · rw [va_up_ne _ _ w, va_up_ne _ _ w]
    have := a3 i (by omega)
    omega
theorem fr_make (h2 : A.1 1 < 200) (hn : A.1 2 + n ≤ 2000) : fr A (aMake A n) f := ⟨rfl, rfl, fun i hi => ⟨rfl, rfl, rfl, rfl⟩, Nat.le_succ _, fun h => aH_make h h2 hn, rfl, rfl, rfl⟩
theorem aB_pop (h : aB A) : aB (aPop A f) := ⟨h.1, fun i hi => by
  have := h.2 i hi
  show va_up (A.2.1 2) f (A.2.1 2 f - 1) i ≤ 15
  by_cases w : i = f
  · subst w
    rw [va_up_self]; omega
  · rw [va_up_ne _ _ w]; exact this⟩
theorem aB_push (h : aB A) (h15 : A.2.1 2 f < 15) : aB (aPush A f v) := ⟨h.1, fun i hi => by
  have := h.2 i hi
  show va_up (A.2.1 2) f (A.2.1 2 f + 1) i ≤ 15
  by_cases w : i = f
  · subst w
    rw [va_up_self]; omega
  · rw [va_up_ne _ _ w]; exact this⟩
theorem aPush_pop (h0 : 0 < A.2.1 2 f) : aPush (aPop A f) f (aTop A f) = A := by
  unfold aPush aPop aTop
  refine Prod.ext rfl (Prod.ext ?_ ?_)
  · show va_up (va_up A.2.1 2 (va_up (A.2.1 2) f (A.2.1 2 f - 1))) 2 (va_up ((va_up A.2.1 2 (va_up (A.2.1 2) f (A.2.1 2 f - 1))) 2) f ((va_up A.2.1 2 (va_up (A.2.1 2) f (A.2.1 2 f - 1))) 2 f + 1)) = A.2.1
    rw [va_uu, va_up_self, va_uu, va_up_self, show A.2.1 2 f - 1 + 1 = A.2.1 2 f by omega, va_same (A.2.1 2) f rfl, va_same A.2.1 2 rfl]
  · show va_up A.2.2 0 (va_up (A.2.2 0) f (va_up (A.2.2 0 f) ((va_up A.2.1 2 (va_up (A.2.1 2) f (A.2.1 2 f - 1))) 2 f) (A.2.2 0 f (A.2.1 2 f - 1)))) = A.2.2
    rw [va_up_self, va_up_self, va_same (A.2.2 0 f) _ rfl, va_same (A.2.2 0) f rfl, va_same A.2.2 0 rfl]
theorem aGo_same : aGo A f (A.2.1 1 f) = A := by
  unfold aGo
  rw [va_same (A.2.1 1) f rfl, va_same A.2.1 1 rfl]
end FR
/-- what the reference does of an order, behind the new place -/
def mst (p1 p2 : Int32) (I : SI) (F : SF) (Post : SI → SF → Prop) : Prop := (p1 = 0 → (wp_MM_step_25 Post p1 p2 I F)) ∧ (¬ p1 = 0 → ((¬ p1 = 18 → ((p1 = 1 → (wp_MM_step_51 Post p2 I F)) ∧ (¬ p1 = 1 → ((¬ p1 = 3 → ((p1 = 2 → (wp_MM_step_85 Post p2 I F)) ∧ (¬ p1 = 2 → ((¬ p1 = 4 → ((10 ≤ p1 → ((p1 < 14 → (wp_MM_step_148 Post p1 p2 I F)) ∧ (¬ p1 < 14 → ((p1 ≤ 17 → (wp_MM_step_154 Post p1 p2 I F)) ∧ (¬ p1 ≤ 17 → (wp_MM_step_148 Post p1 p2 I F)))))) ∧ (¬ 10 ≤ p1 → (∃ P28 : Int32 → SI → SF → Prop, wp_MM_popValue I F P28 ∧ ∀ r28 I28 F28, P28 r28 I28 F28 → (∃ P29 : Int32 → SI → SF → Prop, wp_MM_popValue I28 F28 P29 ∧ ∀ r29 I29 F29, P29 r29 I29 F29 → (∃ P30 : Int32 → SI → SF → Prop, wp_MM_worked p1 r29 r28 I29 F29 P30 ∧ ∀ r30 I30 F30, P30 r30 I30 F30 → (∃ P31 : SI → SF → Prop, wp_MM_pushValue r30 I30 F30 P31 ∧ ∀ I31 F31, P31 I31 F31 → (Post I31 F31)))))))) ∧ (p1 = 4 → (wp_MM_step_85 Post p2 I F)))))) ∧ (p1 = 3 → (wp_MM_step_51 Post p2 I F)))))) ∧ (p1 = 18 → (wp_MM_step_25 Post p1 p2 I F))))
theorem mst_of {p1 p2 : Int32} {I : SI} {F : SF} {Post : SI → SF → Prop} (hv : vp_in (I 5 - 1) 50) (h : mst p1 p2 I (va_up F 18 (upd (F 18) ((I 5) - 1 : Int32).toNatClampNeg (((F 18) ((I 5) - 1 : Int32).toNatClampNeg) + 1))) Post) : wp_MM_step p1 p2 I F Post := ⟨hv, hv, h⟩
theorem ms_0 {p2 : Int32} {I : SI} {F : SF} {Post : SI → SF → Prop} (h : wp_MM_step_25 Post (0 : Int32) p2 I F) : mst 0 p2 I F Post := ⟨fun _ => h, fun z => absurd z (by decide)⟩
theorem ms_1 {p2 : Int32} {I : SI} {F : SF} {Post : SI → SF → Prop} (h : wp_MM_step_51 Post p2 I F) : mst 1 p2 I F Post := ⟨fun z => absurd z (by decide), fun _ => ⟨fun _ => ⟨fun _ => h, fun z => absurd z (by decide)⟩, fun z => absurd z (by decide)⟩⟩
theorem ms_2 {p2 : Int32} {I : SI} {F : SF} {Post : SI → SF → Prop} (h : wp_MM_step_85 Post p2 I F) : mst 2 p2 I F Post := ⟨fun z => absurd z (by decide), fun _ => ⟨fun _ => ⟨fun z => absurd z (by decide), fun _ => ⟨fun _ => ⟨fun _ => h, fun z => absurd z (by decide)⟩, fun z => absurd z (by decide)⟩⟩, fun z => absurd z (by decide)⟩⟩
theorem ms_3 {p2 : Int32} {I : SI} {F : SF} {Post : SI → SF → Prop} (h : wp_MM_step_51 Post p2 I F) : mst 3 p2 I F Post := ⟨fun z => absurd z (by decide), fun _ => ⟨fun _ => ⟨fun z => absurd z (by decide), fun _ => ⟨fun z => absurd z (by decide), fun _ => h⟩⟩, fun z => absurd z (by decide)⟩⟩
theorem ms_4 {p2 : Int32} {I : SI} {F : SF} {Post : SI → SF → Prop} (h : wp_MM_step_85 Post p2 I F) : mst 4 p2 I F Post := ⟨fun z => absurd z (by decide), fun _ => ⟨fun _ => ⟨fun z => absurd z (by decide), fun _ => ⟨fun _ => ⟨fun z => absurd z (by decide), fun _ => ⟨fun z => absurd z (by decide), fun _ => h⟩⟩, fun z => absurd z (by decide)⟩⟩, fun z => absurd z (by decide)⟩⟩
theorem ms_5 {p2 : Int32} {I : SI} {F : SF} {Post : SI → SF → Prop} (h : ∃ P28 : Int32 → SI → SF → Prop, wp_MM_popValue I F P28 ∧ ∀ r28 I28 F28, P28 r28 I28 F28 → (∃ P29 : Int32 → SI → SF → Prop, wp_MM_popValue I28 F28 P29 ∧ ∀ r29 I29 F29, P29 r29 I29 F29 → (∃ P30 : Int32 → SI → SF → Prop, wp_MM_worked (5 : Int32) r29 r28 I29 F29 P30 ∧ ∀ r30 I30 F30, P30 r30 I30 F30 → (∃ P31 : SI → SF → Prop, wp_MM_pushValue r30 I30 F30 P31 ∧ ∀ I31 F31, P31 I31 F31 → (Post I31 F31))))) : mst 5 p2 I F Post := ⟨fun z => absurd z (by decide), fun _ => ⟨fun _ => ⟨fun z => absurd z (by decide), fun _ => ⟨fun _ => ⟨fun z => absurd z (by decide), fun _ => ⟨fun _ => ⟨fun z => absurd z (by decide), fun _ => h⟩, fun z => absurd z (by decide)⟩⟩, fun z => absurd z (by decide)⟩⟩, fun z => absurd z (by decide)⟩⟩
theorem ms_6 {p2 : Int32} {I : SI} {F : SF} {Post : SI → SF → Prop} (h : ∃ P28 : Int32 → SI → SF → Prop, wp_MM_popValue I F P28 ∧ ∀ r28 I28 F28, P28 r28 I28 F28 → (∃ P29 : Int32 → SI → SF → Prop, wp_MM_popValue I28 F28 P29 ∧ ∀ r29 I29 F29, P29 r29 I29 F29 → (∃ P30 : Int32 → SI → SF → Prop, wp_MM_worked (6 : Int32) r29 r28 I29 F29 P30 ∧ ∀ r30 I30 F30, P30 r30 I30 F30 → (∃ P31 : SI → SF → Prop, wp_MM_pushValue r30 I30 F30 P31 ∧ ∀ I31 F31, P31 I31 F31 → (Post I31 F31))))) : mst 6 p2 I F Post := ⟨fun z => absurd z (by decide), fun _ => ⟨fun _ => ⟨fun z => absurd z (by decide), fun _ => ⟨fun _ => ⟨fun z => absurd z (by decide), fun _ => ⟨fun _ => ⟨fun z => absurd z (by decide), fun _ => h⟩, fun z => absurd z (by decide)⟩⟩, fun z => absurd z (by decide)⟩⟩, fun z => absurd z (by decide)⟩⟩
theorem ms_7 {p2 : Int32} {I : SI} {F : SF} {Post : SI → SF → Prop} (h : ∃ P28 : Int32 → SI → SF → Prop, wp_MM_popValue I F P28 ∧ ∀ r28 I28 F28, P28 r28 I28 F28 → (∃ P29 : Int32 → SI → SF → Prop, wp_MM_popValue I28 F28 P29 ∧ ∀ r29 I29 F29, P29 r29 I29 F29 → (∃ P30 : Int32 → SI → SF → Prop, wp_MM_worked (7 : Int32) r29 r28 I29 F29 P30 ∧ ∀ r30 I30 F30, P30 r30 I30 F30 → (∃ P31 : SI → SF → Prop, wp_MM_pushValue r30 I30 F30 P31 ∧ ∀ I31 F31, P31 I31 F31 → (Post I31 F31))))) : mst 7 p2 I F Post := ⟨fun z => absurd z (by decide), fun _ => ⟨fun _ => ⟨fun z => absurd z (by decide), fun _ => ⟨fun _ => ⟨fun z => absurd z (by decide), fun _ => ⟨fun _ => ⟨fun z => absurd z (by decide), fun _ => h⟩, fun z => absurd z (by decide)⟩⟩, fun z => absurd z (by decide)⟩⟩, fun z => absurd z (by decide)⟩⟩
theorem ms_8 {p2 : Int32} {I : SI} {F : SF} {Post : SI → SF → Prop} (h : ∃ P28 : Int32 → SI → SF → Prop, wp_MM_popValue I F P28 ∧ ∀ r28 I28 F28, P28 r28 I28 F28 → (∃ P29 : Int32 → SI → SF → Prop, wp_MM_popValue I28 F28 P29 ∧ ∀ r29 I29 F29, P29 r29 I29 F29 → (∃ P30 : Int32 → SI → SF → Prop, wp_MM_worked (8 : Int32) r29 r28 I29 F29 P30 ∧ ∀ r30 I30 F30, P30 r30 I30 F30 → (∃ P31 : SI → SF → Prop, wp_MM_pushValue r30 I30 F30 P31 ∧ ∀ I31 F31, P31 I31 F31 → (Post I31 F31))))) : mst 8 p2 I F Post := ⟨fun z => absurd z (by decide), fun _ => ⟨fun _ => ⟨fun z => absurd z (by decide), fun _ => ⟨fun _ => ⟨fun z => absurd z (by decide), fun _ => ⟨fun _ => ⟨fun z => absurd z (by decide), fun _ => h⟩, fun z => absurd z (by decide)⟩⟩, fun z => absurd z (by decide)⟩⟩, fun z => absurd z (by decide)⟩⟩
theorem ms_9 {p2 : Int32} {I : SI} {F : SF} {Post : SI → SF → Prop} (h : ∃ P28 : Int32 → SI → SF → Prop, wp_MM_popValue I F P28 ∧ ∀ r28 I28 F28, P28 r28 I28 F28 → (∃ P29 : Int32 → SI → SF → Prop, wp_MM_popValue I28 F28 P29 ∧ ∀ r29 I29 F29, P29 r29 I29 F29 → (∃ P30 : Int32 → SI → SF → Prop, wp_MM_worked (9 : Int32) r29 r28 I29 F29 P30 ∧ ∀ r30 I30 F30, P30 r30 I30 F30 → (∃ P31 : SI → SF → Prop, wp_MM_pushValue r30 I30 F30 P31 ∧ ∀ I31 F31, P31 I31 F31 → (Post I31 F31))))) : mst 9 p2 I F Post := ⟨fun z => absurd z (by decide), fun _ => ⟨fun _ => ⟨fun z => absurd z (by decide), fun _ => ⟨fun _ => ⟨fun z => absurd z (by decide), fun _ => ⟨fun _ => ⟨fun z => absurd z (by decide), fun _ => h⟩, fun z => absurd z (by decide)⟩⟩, fun z => absurd z (by decide)⟩⟩, fun z => absurd z (by decide)⟩⟩
theorem ms_10 {p2 : Int32} {I : SI} {F : SF} {Post : SI → SF → Prop} (h : wp_MM_popValue I F (fun r1 I1 F1 => ∃ P26 : Int32 → SI → SF → Prop, wp_MM_make r1 I1 F1 P26 ∧ ∀ r26 I26 F26, P26 r26 I26 F26 → (∃ P27 : SI → SF → Prop, wp_MM_pushValue r26 I26 F26 P27 ∧ ∀ I27 F27, P27 I27 F27 → (Post I27 F27)))) : mst 10 p2 I F Post := ⟨fun z => absurd z (by decide), fun _ => ⟨fun _ => ⟨fun z => absurd z (by decide), fun _ => ⟨fun _ => ⟨fun z => absurd z (by decide), fun _ => ⟨fun _ => ⟨fun _ => ⟨fun _ => (show wp_MM_step_148 Post 10 p2 I F from ⟨fun _ => ⟨fun _ => ⟨fun _ => ⟨_, (show wp_MM_handle 10 I F Post from ⟨_, h, fun r1 I1 F1 h => ⟨fun z => absurd z (by decide), fun _ => h⟩⟩), fun _ _ q => q⟩, fun z => absurd z (by decide)⟩, fun z => absurd z (by decide)⟩, fun z => absurd z (by decide)⟩), fun z => absurd z (by decide)⟩, fun z => absurd z (by decide)⟩, fun z => absurd z (by decide)⟩⟩, fun z => absurd z (by decide)⟩⟩, fun z => absurd z (by decide)⟩⟩
theorem ms_11 {p2 : Int32} {I : SI} {F : SF} {Post : SI → SF → Prop} (h : wp_MM_popValue I F (fun r1 I1 F1 => vp_in r1 201 ∧ (∃ P25 : SI → SF → Prop, wp_MM_pushValue ((F1 23) r1.toNatClampNeg) I1 F1 P25 ∧ ∀ I25 F25, P25 I25 F25 → (Post I25 F25)))) : mst 11 p2 I F Post := ⟨fun z => absurd z (by decide), fun _ => ⟨fun _ => ⟨fun z => absurd z (by decide), fun _ => ⟨fun _ => ⟨fun z => absurd z (by decide), fun _ => ⟨fun _ => ⟨fun _ => ⟨fun _ => (show wp_MM_step_148 Post 11 p2 I F from ⟨fun _ => ⟨fun _ => ⟨fun _ => ⟨_, (show wp_MM_handle 11 I F Post from ⟨_, h, fun r1 I1 F1 h => ⟨fun _ => ⟨fun z => absurd z (by decide), fun _ => h⟩, fun z => absurd z (by decide)⟩⟩), fun _ _ q => q⟩, fun z => absurd z (by decide)⟩, fun z => absurd z (by decide)⟩, fun z => absurd z (by decide)⟩), fun z => absurd z (by decide)⟩, fun z => absurd z (by decide)⟩, fun z => absurd z (by decide)⟩⟩, fun z => absurd z (by decide)⟩⟩, fun z => absurd z (by decide)⟩⟩
theorem ms_12 {p2 : Int32} {I : SI} {F : SF} {Post : SI → SF → Prop} (h : wp_MM_popValue I F (fun r1 I1 F1 => ∃ P20 : Int32 → SI → SF → Prop, wp_MM_popValue I1 F1 P20 ∧ ∀ r20 I20 F20, P20 r20 I20 F20 → (vp_in r20 201 ∧ (vp_in (((F20 22) r20.toNatClampNeg) + r1) 2000 ∧ (∃ P23 : SI → SF → Prop, wp_MM_pushValue ((F20 24) (((F20 22) r20.toNatClampNeg) + r1 : Int32).toNatClampNeg) I20 F20 P23 ∧ ∀ I23 F23, P23 I23 F23 → (Post I23 F23)))))) : mst 12 p2 I F Post := ⟨fun z => absurd z (by decide), fun _ => ⟨fun _ => ⟨fun z => absurd z (by decide), fun _ => ⟨fun _ => ⟨fun z => absurd z (by decide), fun _ => ⟨fun _ => ⟨fun _ => ⟨fun _ => (show wp_MM_step_148 Post 12 p2 I F from ⟨fun _ => ⟨fun _ => ⟨fun _ => ⟨_, (show wp_MM_handle 12 I F Post from ⟨_, h, fun r1 I1 F1 h => ⟨fun _ => ⟨fun _ => ⟨fun z => absurd z (by decide), fun _ => h⟩, fun z => absurd z (by decide)⟩, fun z => absurd z (by decide)⟩⟩), fun _ _ q => q⟩, fun z => absurd z (by decide)⟩, fun z => absurd z (by decide)⟩, fun z => absurd z (by decide)⟩), fun z => absurd z (by decide)⟩, fun z => absurd z (by decide)⟩, fun z => absurd z (by decide)⟩⟩, fun z => absurd z (by decide)⟩⟩, fun z => absurd z (by decide)⟩⟩
theorem ms_13 {p2 : Int32} {I : SI} {F : SF} {Post : SI → SF → Prop} (h : wp_MM_popValue I F (fun r1 I1 F1 => ∃ P16 : Int32 → SI → SF → Prop, wp_MM_popValue I1 F1 P16 ∧ ∀ r16 I16 F16, P16 r16 I16 F16 → (∃ P17 : Int32 → SI → SF → Prop, wp_MM_popValue I16 F16 P17 ∧ ∀ r17 I17 F17, P17 r17 I17 F17 → (vp_in r17 201 ∧ (vp_in (((F17 22) r17.toNatClampNeg) + r16) 2000 ∧ (Post I17 (va_up F17 24 (upd (F17 24) (((F17 22) r17.toNatClampNeg) + r16 : Int32).toNatClampNeg r1)))))))) : mst 13 p2 I F Post := ⟨fun z => absurd z (by decide), fun _ => ⟨fun _ => ⟨fun z => absurd z (by decide), fun _ => ⟨fun _ => ⟨fun z => absurd z (by decide), fun _ => ⟨fun _ => ⟨fun _ => ⟨fun _ => (show wp_MM_step_148 Post 13 p2 I F from ⟨fun _ => ⟨fun _ => ⟨fun _ => ⟨_, (show wp_MM_handle 13 I F Post from ⟨_, h, fun r1 I1 F1 h => ⟨fun _ => ⟨fun _ => ⟨fun _ => ⟨fun z => absurd z (by decide), fun _ => h⟩, fun z => absurd z (by decide)⟩, fun z => absurd z (by decide)⟩, fun z => absurd z (by decide)⟩⟩), fun _ _ q => q⟩, fun z => absurd z (by decide)⟩, fun z => absurd z (by decide)⟩, fun z => absurd z (by decide)⟩), fun z => absurd z (by decide)⟩, fun z => absurd z (by decide)⟩, fun z => absurd z (by decide)⟩⟩, fun z => absurd z (by decide)⟩⟩, fun z => absurd z (by decide)⟩⟩
theorem ms_14 {p2 : Int32} {I : SI} {F : SF} {Post : SI → SF → Prop} (h : wp_MM_step_154 Post (14 : Int32) p2 I F) : mst 14 p2 I F Post := ⟨fun z => absurd z (by decide), fun _ => ⟨fun _ => ⟨fun z => absurd z (by decide), fun _ => ⟨fun _ => ⟨fun z => absurd z (by decide), fun _ => ⟨fun _ => ⟨fun _ => ⟨fun z => absurd z (by decide), fun _ => ⟨fun _ => h, fun z => absurd z (by decide)⟩⟩, fun z => absurd z (by decide)⟩, fun z => absurd z (by decide)⟩⟩, fun z => absurd z (by decide)⟩⟩, fun z => absurd z (by decide)⟩⟩
theorem ms_15 {p2 : Int32} {I : SI} {F : SF} {Post : SI → SF → Prop} (h : wp_MM_step_154 Post (15 : Int32) p2 I F) : mst 15 p2 I F Post := ⟨fun z => absurd z (by decide), fun _ => ⟨fun _ => ⟨fun z => absurd z (by decide), fun _ => ⟨fun _ => ⟨fun z => absurd z (by decide), fun _ => ⟨fun _ => ⟨fun _ => ⟨fun z => absurd z (by decide), fun _ => ⟨fun _ => h, fun z => absurd z (by decide)⟩⟩, fun z => absurd z (by decide)⟩, fun z => absurd z (by decide)⟩⟩, fun z => absurd z (by decide)⟩⟩, fun z => absurd z (by decide)⟩⟩
theorem ms_16 {p2 : Int32} {I : SI} {F : SF} {Post : SI → SF → Prop} (h : wp_MM_step_154 Post (16 : Int32) p2 I F) : mst 16 p2 I F Post := ⟨fun z => absurd z (by decide), fun _ => ⟨fun _ => ⟨fun z => absurd z (by decide), fun _ => ⟨fun _ => ⟨fun z => absurd z (by decide), fun _ => ⟨fun _ => ⟨fun _ => ⟨fun z => absurd z (by decide), fun _ => ⟨fun _ => h, fun z => absurd z (by decide)⟩⟩, fun z => absurd z (by decide)⟩, fun z => absurd z (by decide)⟩⟩, fun z => absurd z (by decide)⟩⟩, fun z => absurd z (by decide)⟩⟩
theorem ms_17 {p2 : Int32} {I : SI} {F : SF} {Post : SI → SF → Prop} (h : wp_MM_step_154 Post (17 : Int32) p2 I F) : mst 17 p2 I F Post := ⟨fun z => absurd z (by decide), fun _ => ⟨fun _ => ⟨fun z => absurd z (by decide), fun _ => ⟨fun _ => ⟨fun z => absurd z (by decide), fun _ => ⟨fun _ => ⟨fun _ => ⟨fun z => absurd z (by decide), fun _ => ⟨fun _ => h, fun z => absurd z (by decide)⟩⟩, fun z => absurd z (by decide)⟩, fun z => absurd z (by decide)⟩⟩, fun z => absurd z (by decide)⟩⟩, fun z => absurd z (by decide)⟩⟩
theorem ms_18 {p2 : Int32} {I : SI} {F : SF} {Post : SI → SF → Prop} (h : wp_MM_step_25 Post (18 : Int32) p2 I F) : mst 18 p2 I F Post := ⟨fun z => absurd z (by decide), fun _ => ⟨fun z => absurd z (by decide), fun _ => h⟩⟩
theorem ms_19 {p2 : Int32} {I : SI} {F : SF} {Post : SI → SF → Prop} (h : wp_MM_step_154 Post (19 : Int32) p2 I F) : mst 19 p2 I F Post := ⟨fun z => absurd z (by decide), fun _ => ⟨fun _ => ⟨fun z => absurd z (by decide), fun _ => ⟨fun _ => ⟨fun z => absurd z (by decide), fun _ => ⟨fun _ => ⟨fun _ => ⟨fun z => absurd z (by decide), fun _ => ⟨fun z => absurd z (by decide), fun _ => (show wp_MM_step_148 Post 19 p2 I F from ⟨fun z => absurd z (by decide), fun _ => h⟩)⟩⟩, fun z => absurd z (by decide)⟩, fun z => absurd z (by decide)⟩⟩, fun z => absurd z (by decide)⟩⟩, fun z => absurd z (by decide)⟩⟩
theorem ms_20 {p2 : Int32} {I : SI} {F : SF} {Post : SI → SF → Prop} (h : wp_MM_popValue I F (fun r1 I1 F1 => ∃ P14 : SI → SF → Prop, wp_MM_pushValue r1 I1 F1 P14 ∧ ∀ I14 F14, P14 I14 F14 → (∃ P15 : SI → SF → Prop, wp_MM_pushValue r1 I14 F14 P15 ∧ ∀ I15 F15, P15 I15 F15 → (Post I15 F15)))) : mst 20 p2 I F Post := ⟨fun z => absurd z (by decide), fun _ => ⟨fun _ => ⟨fun z => absurd z (by decide), fun _ => ⟨fun _ => ⟨fun z => absurd z (by decide), fun _ => ⟨fun _ => ⟨fun _ => ⟨fun z => absurd z (by decide), fun _ => ⟨fun z => absurd z (by decide), fun _ => (show wp_MM_step_148 Post 20 p2 I F from ⟨fun _ => ⟨fun _ => ⟨fun _ => ⟨_, (show wp_MM_handle 20 I F Post from ⟨_, h, fun r1 I1 F1 h => ⟨fun _ => ⟨fun _ => ⟨fun _ => ⟨fun _ => ⟨fun z => absurd z (by decide), fun _ => h⟩, fun z => absurd z (by decide)⟩, fun z => absurd z (by decide)⟩, fun z => absurd z (by decide)⟩, fun z => absurd z (by decide)⟩⟩), fun _ _ q => q⟩, fun z => absurd z (by decide)⟩, fun z => absurd z (by decide)⟩, fun z => absurd z (by decide)⟩)⟩⟩, fun z => absurd z (by decide)⟩, fun z => absurd z (by decide)⟩⟩, fun z => absurd z (by decide)⟩⟩, fun z => absurd z (by decide)⟩⟩
theorem ms_21 {p2 : Int32} {I : SI} {F : SF} {Post : SI → SF → Prop} (h : wp_MM_popValue I F (fun r1 I1 F1 => Post I1 F1)) : mst 21 p2 I F Post := ⟨fun z => absurd z (by decide), fun _ => ⟨fun _ => ⟨fun z => absurd z (by decide), fun _ => ⟨fun _ => ⟨fun z => absurd z (by decide), fun _ => ⟨fun _ => ⟨fun _ => ⟨fun z => absurd z (by decide), fun _ => ⟨fun z => absurd z (by decide), fun _ => (show wp_MM_step_148 Post 21 p2 I F from ⟨fun _ => ⟨fun _ => ⟨fun _ => ⟨_, (show wp_MM_handle 21 I F Post from ⟨_, h, fun r1 I1 F1 h => ⟨fun _ => ⟨fun _ => ⟨fun _ => ⟨fun _ => ⟨fun _ => ⟨fun _ => ⟨fun _ => h, fun z => absurd z (by decide)⟩, fun z => absurd z (by decide)⟩, fun z => absurd z (by decide)⟩, fun z => absurd z (by decide)⟩, fun z => absurd z (by decide)⟩, fun z => absurd z (by decide)⟩, fun z => absurd z (by decide)⟩⟩), fun _ _ q => q⟩, fun z => absurd z (by decide)⟩, fun z => absurd z (by decide)⟩, fun z => absurd z (by decide)⟩)⟩⟩, fun z => absurd z (by decide)⟩, fun z => absurd z (by decide)⟩⟩, fun z => absurd z (by decide)⟩⟩, fun z => absurd z (by decide)⟩⟩
theorem ms_22 {p2 : Int32} {I : SI} {F : SF} {Post : SI → SF → Prop} (h : wp_MM_popValue I F (fun r1 I1 F1 => ∃ P11 : Int32 → SI → SF → Prop, wp_MM_popValue I1 F1 P11 ∧ ∀ r11 I11 F11, P11 r11 I11 F11 → (∃ P12 : SI → SF → Prop, wp_MM_pushValue r1 I11 F11 P12 ∧ ∀ I12 F12, P12 I12 F12 → (∃ P13 : SI → SF → Prop, wp_MM_pushValue r11 I12 F12 P13 ∧ ∀ I13 F13, P13 I13 F13 → (Post I13 F13))))) : mst 22 p2 I F Post := ⟨fun z => absurd z (by decide), fun _ => ⟨fun _ => ⟨fun z => absurd z (by decide), fun _ => ⟨fun _ => ⟨fun z => absurd z (by decide), fun _ => ⟨fun _ => ⟨fun _ => ⟨fun z => absurd z (by decide), fun _ => ⟨fun z => absurd z (by decide), fun _ => (show wp_MM_step_148 Post 22 p2 I F from ⟨fun _ => ⟨fun _ => ⟨fun _ => ⟨_, (show wp_MM_handle 22 I F Post from ⟨_, h, fun r1 I1 F1 h => ⟨fun _ => ⟨fun _ => ⟨fun _ => ⟨fun _ => ⟨fun _ => ⟨fun z => absurd z (by decide), fun _ => h⟩, fun z => absurd z (by decide)⟩, fun z => absurd z (by decide)⟩, fun z => absurd z (by decide)⟩, fun z => absurd z (by decide)⟩, fun z => absurd z (by decide)⟩⟩), fun _ _ q => q⟩, fun z => absurd z (by decide)⟩, fun z => absurd z (by decide)⟩, fun z => absurd z (by decide)⟩)⟩⟩, fun z => absurd z (by decide)⟩, fun z => absurd z (by decide)⟩⟩, fun z => absurd z (by decide)⟩⟩, fun z => absurd z (by decide)⟩⟩
theorem ms_23 {p2 : Int32} {I : SI} {F : SF} {Post : SI → SF → Prop} (h : ∃ P22 : SI → SF → Prop, wp_MM_into p2 I F P22 ∧ ∀ I22 F22, P22 I22 F22 → (Post I22 F22)) : mst 23 p2 I F Post := ⟨fun z => absurd z (by decide), fun _ => ⟨fun _ => ⟨fun z => absurd z (by decide), fun _ => ⟨fun _ => ⟨fun z => absurd z (by decide), fun _ => ⟨fun _ => ⟨fun _ => ⟨fun z => absurd z (by decide), fun _ => ⟨fun z => absurd z (by decide), fun _ => (show wp_MM_step_148 Post 23 p2 I F from ⟨fun _ => ⟨fun z => absurd z (by decide), fun _ => h⟩, fun z => absurd z (by decide)⟩)⟩⟩, fun z => absurd z (by decide)⟩, fun z => absurd z (by decide)⟩⟩, fun z => absurd z (by decide)⟩⟩, fun z => absurd z (by decide)⟩⟩
theorem ms_24 {p2 : Int32} {I : SI} {F : SF} {Post : SI → SF → Prop} (h : ∃ P21 : SI → SF → Prop, wp_MM_back I F P21 ∧ ∀ I21 F21, P21 I21 F21 → (Post I21 F21)) : mst 24 p2 I F Post := ⟨fun z => absurd z (by decide), fun _ => ⟨fun _ => ⟨fun z => absurd z (by decide), fun _ => ⟨fun _ => ⟨fun z => absurd z (by decide), fun _ => ⟨fun _ => ⟨fun _ => ⟨fun z => absurd z (by decide), fun _ => ⟨fun z => absurd z (by decide), fun _ => (show wp_MM_step_148 Post 24 p2 I F from ⟨fun _ => ⟨fun _ => ⟨fun z => absurd z (by decide), fun _ => h⟩, fun z => absurd z (by decide)⟩, fun z => absurd z (by decide)⟩)⟩⟩, fun z => absurd z (by decide)⟩, fun z => absurd z (by decide)⟩⟩, fun z => absurd z (by decide)⟩⟩, fun z => absurd z (by decide)⟩⟩
theorem ms_25 {p2 : Int32} {I : SI} {F : SF} {Post : SI → SF → Prop} (h : wp_MM_popValue I F (fun r1 I1 F1 => (¬ (100 : Int32) = 0) ∧ (vp_in ((I1 11) - (I1 11) / 100 * 100) 100 ∧ (Post (va_up I1 11 ((I1 11) + 1)) (va_up F1 25 (upd (F1 25) ((I1 11) - (I1 11) / 100 * 100 : Int32).toNatClampNeg r1)))))) : mst 25 p2 I F Post := ⟨fun z => absurd z (by decide), fun _ => ⟨fun _ => ⟨fun z => absurd z (by decide), fun _ => ⟨fun _ => ⟨fun z => absurd z (by decide), fun _ => ⟨fun _ => ⟨fun _ => ⟨fun z => absurd z (by decide), fun _ => ⟨fun z => absurd z (by decide), fun _ => (show wp_MM_step_148 Post 25 p2 I F from ⟨fun _ => ⟨fun _ => ⟨fun _ => ⟨_, (show wp_MM_handle 25 I F Post from ⟨_, h, fun r1 I1 F1 h => ⟨fun _ => ⟨fun _ => ⟨fun _ => ⟨fun _ => ⟨fun _ => ⟨fun _ => ⟨fun z => absurd z (by decide), fun _ => h⟩, fun z => absurd z (by decide)⟩, fun z => absurd z (by decide)⟩, fun z => absurd z (by decide)⟩, fun z => absurd z (by decide)⟩, fun z => absurd z (by decide)⟩, fun z => absurd z (by decide)⟩⟩), fun _ _ q => q⟩, fun z => absurd z (by decide)⟩, fun z => absurd z (by decide)⟩, fun z => absurd z (by decide)⟩)⟩⟩, fun z => absurd z (by decide)⟩, fun z => absurd z (by decide)⟩⟩, fun z => absurd z (by decide)⟩⟩, fun z => absurd z (by decide)⟩⟩
/-- one step, class and reference: the same run behind it, and what is known behind the instruction holds there -/
def stp (cw : SI → SF → (Int32 → SI → SF → Prop) → Prop) (mw : SI → SF → (SI → SF → Prop) → Prop) (A : am) (f : Nat) (y : aj_S) (T : Nat → Prop) : Prop := ∃ A', fr A A' f ∧ aB A' ∧ aY (A'.1 1) y A' f ∧ A'.1 3 ≤ A.1 3 + 1 ∧ T (A'.2.1 1 f) ∧ (∀ (I : SI) (F : SF), cB A I F → ∀ Post : Int32 → SI → SF → Prop, (∀ I' F', cB A' I' F' → kF I F I' F' → Post 1 I' F') → cw I F Post) ∧ ∀ (J : SI) (G : SF), mB A J G → ∀ Post : SI → SF → Prop, (∀ J' G', mB A' J' G' → kG J G J' G' → Post J' G') → mw J G Post
def cmb (o : Nat) : Prop := (5 ≤ o ∧ o ≤ 9) ∨ o = 12 ∨ o = 13 ∨ o = 22
theorem ev_ari {o : Nat} {I : SI} {F : SF} {Post : Int32 → SI → SF → Prop} (ho : o ≤ 25) : wp_Or_isArithmetic (nI o) I F Post ↔ Post (bi (5 ≤ o ∧ o ≤ 9)) I F := by
  unfold wp_Or_isArithmetic
  have a : nI o < 5 ↔ o < 5 := nI_ltI (by omega) (by decide)
  have b : 9 < nI o ↔ 9 < o := nI_ltI (by decide) (by omega)
  rw [a, b]
  by_cases q : o < 5
  · rw [bi_n (by omega)]
    exact ⟨fun w => w.1 q, fun w => ⟨fun _ => w, fun z => absurd q z⟩⟩
  · by_cases q2 : 9 < o
    · rw [bi_n (by omega)]
      exact ⟨fun w => (w.2 q).1 q2, fun w => ⟨fun _ => w, fun _ => ⟨fun _ => w, fun z => absurd q2 z⟩⟩⟩
    · rw [bi_y (by omega)]
      exact ⟨fun w => (w.2 q).2 q2, fun w => ⟨fun z => absurd z q, fun _ => ⟨fun z => absurd z q2, fun _ => w⟩⟩⟩
theorem ev_cmb {o : Nat} {I : SI} {F : SF} {Post : Int32 → SI → SF → Prop} (ho : o ≤ 25) (h : Post (bi (cmb o)) I F) : wp_Or_combines (nI o) I F Post := by
  unfold wp_Or_combines wp_Or_combines_25
  simp only [ev_ari ho, ex3]
  have c12 : nI o = 12 ↔ o = 12 := nI_eq (by omega) (by decide)
  have c13 : nI o = 13 ↔ o = 13 := nI_eq (by omega) (by decide)
  have c22 : nI o = 22 ↔ o = 22 := nI_eq (by omega) (by decide)
  rw [c12, c13, c22]
  by_cases q : cmb o
  · rw [bi_y q] at h
    refine ⟨fun _ => h, fun z => ⟨fun _ => h, fun z2 => ⟨fun _ => h, fun z3 => ⟨fun z4 => ?_, fun _ => h⟩⟩⟩⟩
    have := bi_0.mp z
    unfold cmb at q
    omega
  · rw [bi_n q] at h
    unfold cmb at q
    refine ⟨fun z => absurd (bi_1 z) (by omega), fun z => ⟨fun z2 => absurd z2 (by omega), fun z2 => ⟨fun z3 => absurd z3 (by omega), fun z3 => ⟨fun _ => h, fun z4 => absurd z4 (by omega)⟩⟩⟩⟩
section C142
variable {o : Nat} {v : Int32} {I : SI} {F : SF} {Post : Int32 → SI → SF → Prop}
theorem c142_w (ho : o ≤ 25) (h1 : ¬ aj_jmp o = true) (h2 : ¬ cmb o) (h : wp_Ma_work (nI o) v I F (fun I F => Post 1 I F)) : wp_Ma_step_142 Post (nI o) v I F := by
  unfold wp_Ma_step_142
  simp only [ev_np ho, ex3, bi_n h1]
  refine ⟨fun _ => ⟨_, ev_cmb ho ?_, fun _ _ _ q => q⟩, fun z => absurd trivial z⟩
  rw [bi_n h2]
  exact y0 ⟨_, h, fun _ _ q => q⟩
theorem c142_c (ho : o ≤ 25) (h1 : ¬ aj_jmp o = true) (h2 : cmb o) (h : wp_Fr_pop I F (fun r18 I F => wp_Fr_pop I F (fun r19 I F => wp_Ma_combine (nI o) r19 r18 I F (fun I F => Post 1 I F)))) : wp_Ma_step_142 Post (nI o) v I F := by
  unfold wp_Ma_step_142
  simp only [ev_np ho, ex3, bi_n h1]
  refine ⟨fun _ => ⟨_, ev_cmb ho ?_, fun _ _ _ q => q⟩, fun z => absurd trivial z⟩
  rw [bi_y h2]
  exact y1 ⟨_, h, fun _ _ _ q => ⟨_, q, fun _ _ _ q => ⟨_, q, fun _ _ q => q⟩⟩⟩
theorem c142_j (ho : o ≤ 25) (h1 : aj_jmp o = true) (h : wp_Ma_leap (nI o) v I F (fun I F => Post 1 I F)) : wp_Ma_step_142 Post (nI o) v I F := by
  unfold wp_Ma_step_142
  simp only [ev_np ho, ex3, bi_y h1]
  exact ⟨fun z => absurd z (by decide), fun _ => ⟨_, h, fun _ _ q => q⟩⟩
end C142
section ST
variable {P : aj_P} {m f : Nat} {v : Int32} {x y : aj_S} {A : am}
theorem st_push {cw : SI → SF → (Int32 → SI → SF → Prop) → Prop} {mw : SI → SF → (SI → SF → Prop) → Prop} {t : Nat} {u : Int32} (hf : A.1 0 = f + 1) (hb : aB A) (hY : aY (A.1 1) x A f) (hu : aV (A.1 1) t u) (h15 : x.1 + 1 ≤ 15) (hc : ∀ (I : SI) (F : SF), cB A I F → ∀ Post : Int32 → SI → SF → Prop, wp_Fr_push u I F (fun I F => Post 1 I F) → cw I F Post) (hm : ∀ (J : SI) (G : SF), mB A J G → ∀ Post : SI → SF → Prop, wp_MM_pushValue u J G Post → mw J G Post) : stp cw mw A f (x.1 + 1, va_up x.2.1 x.1 t, x.2.2) (fun q => q = A.2.1 1 f) := by
  have hx : A.2.1 2 f < 15 := by have := hY.1; omega
  exact ⟨aPush A f u, fr_push, aB_push hb hx, aY_push hY hu, Nat.le_succ _, rfl, fun I F hA Post h => hc I F hA _ (cw_push hA hf hb hx (fun F' a b => h I F' a b)), fun J G hB Post h => hm J G hB _ (mw_push hB hf hb hx (fun G' a b => h J G' a b))⟩
theorem st_0 (hf : A.1 0 = f + 1) (hb : aB A) (hY : aY (A.1 1) x A f) (he : aj_do P m 0 v x = some y) (y15 : y.1 ≤ 15) : stp (fun I F Post => wp_Ma_step_142 Post (nI 0) v I F) (fun J G Post => mst 0 v J G Post) A f y (fun q => q = A.2.1 1 f) := by
  have he : some (x.1 + 1, va_up x.2.1 x.1 1, x.2.2) = some y := he
  cases he
  refine st_push hf hb hY aV_1 y15 (fun I F hA Post h => c142_w (o := 0) (by decide) (by decide) (by unfold cmb; omega) ⟨fun _ => ⟨_, h, fun _ _ q => q⟩, fun z => absurd z (by decide), fun z => absurd z (by decide), fun z => absurd z (by decide), fun z => absurd z (by decide), fun z => absurd z (by decide), fun z => absurd z (by decide), fun z => absurd z (by decide), fun z => absurd z (by decide), fun z => absurd z (by decide), fun z => absurd z (by decide)⟩) (fun J G hB Post h => ms_0 ⟨fun z => absurd rfl z, fun _ => ⟨_, h, fun _ _ q => q⟩⟩)
theorem st_18 (hf : A.1 0 = f + 1) (hb : aB A) (hY : aY (A.1 1) x A f) (he : aj_do P m 18 v x = some y) (y15 : y.1 ≤ 15) : stp (fun I F Post => wp_Ma_step_142 Post (nI 18) v I F) (fun J G Post => mst 18 v J G Post) A f y (fun q => q = A.2.1 1 f) := by
  have he : some (x.1 + 1, va_up x.2.1 x.1 2, x.2.2) = some y := he
  cases he
  refine st_push hf hb hY (fun _ => Or.inl rfl) y15 (fun I F hA Post h => c142_w (o := 18) (by decide) (by decide) (by unfold cmb; omega) ⟨fun z => absurd z (by decide), fun z => absurd z (by decide), fun z => absurd z (by decide), fun z => absurd z (by decide), fun z => absurd z (by decide), fun z => absurd z (by decide), fun _ => ⟨_, h, fun _ _ q => q⟩, fun z => absurd z (by decide), fun z => absurd z (by decide), fun z => absurd z (by decide), fun z => absurd z (by decide)⟩) (fun J G hB Post h => ms_18 ⟨fun _ => ⟨_, h, fun _ _ q => q⟩, fun z => absurd z (by decide)⟩)
theorem st_1 {k : Nat} (hf : A.1 0 = f + 1) (hb : aB A) (hY : aY (A.1 1) x A f) (hk : k < 10) (hv : v = nI k) (he : (aj_has k 1 x).bind (aj_push 1) = some y) (y15 : y.1 ≤ 15) : stp (fun I F Post => wp_Ma_step_142 Post (nI 1) v I F) (fun J G Post => mst 1 v J G Post) A f y (fun q => q = A.2.1 1 f) := by
  obtain ⟨z, e1, e2⟩ := bind_s he
  unfold aj_has at e1
  split at e1
  · next hh =>
    cases e1
    cases e2
    subst hv
    have f50 : f < 50 := by have := hb.1; omega
    have hu : aV (A.1 1) 1 (A.2.2 1 f k) := by
      have := hY.2.2 k hk
      rw [hh] at this
      exact this
    refine st_push hf hb hY hu y15 (fun I F hA Post h => c142_w (o := 1) (by decide) (by decide) (by unfold cmb; omega) ⟨fun z => absurd z (by decide), fun _ => ⟨_, (c_lo hA hf f50 hk).mpr ⟨_, h, fun _ _ q => q⟩, fun _ _ _ q => q⟩, fun z => absurd z (by decide), fun z => absurd z (by decide), fun z => absurd z (by decide), fun z => absurd z (by decide), fun z => absurd z (by decide), fun z => absurd z (by decide), fun z => absurd z (by decide), fun z => absurd z (by decide), fun z => absurd z (by decide)⟩) (fun J G hB Post h => ms_1 ?_)
    have b4 := (hB.2.2.2.2.1 f (by omega)).2.2.2.1 k hk
    unfold wp_MM_step_51
    rw [hB.1, hf, k10, cl (show 10 * f + k < 2 ^ 31 by omega), b4]
    exact ⟨vp_in_nI (show 10 * f + k < 500 by omega) (by decide), _, h, fun _ _ q => q⟩
  · cases e1
theorem st_3 {k : Nat} (hf : A.1 0 = f + 1) (hb : aB A) (hY : aY (A.1 1) x A f) (hk : k < 10) (hv : v = nI k) (he : (aj_has k 2 x).bind (aj_push 2) = some y) (y15 : y.1 ≤ 15) : stp (fun I F Post => wp_Ma_step_142 Post (nI 3) v I F) (fun J G Post => mst 3 v J G Post) A f y (fun q => q = A.2.1 1 f) := by
  obtain ⟨z, e1, e2⟩ := bind_s he
  unfold aj_has at e1
  split at e1
  · next hh =>
    cases e1
    cases e2
    subst hv
    have f50 : f < 50 := by have := hb.1; omega
    have hu : aV (A.1 1) 2 (A.2.2 1 f k) := by
      have := hY.2.2 k hk
      rw [hh] at this
      exact this
    refine st_push hf hb hY hu y15 (fun I F hA Post h => c142_w (o := 3) (by decide) (by decide) (by unfold cmb; omega) ⟨fun z => absurd z (by decide), fun z => absurd z (by decide), fun z => absurd z (by decide), fun _ => ⟨_, (c_lo hA hf f50 hk).mpr ⟨_, h, fun _ _ q => q⟩, fun _ _ _ q => q⟩, fun z => absurd z (by decide), fun z => absurd z (by decide), fun z => absurd z (by decide), fun z => absurd z (by decide), fun z => absurd z (by decide), fun z => absurd z (by decide), fun z => absurd z (by decide)⟩) (fun J G hB Post h => ms_3 ?_)
    have b4 := (hB.2.2.2.2.1 f (by omega)).2.2.2.1 k hk
    unfold wp_MM_step_51
    rw [hB.1, hf, k10, cl (show 10 * f + k < 2 ^ 31 by omega), b4]
    exact ⟨vp_in_nI (show 10 * f + k < 500 by omega) (by decide), _, h, fun _ _ q => q⟩
  · cases e1
theorem st_2 {k : Nat} (hf : A.1 0 = f + 1) (hb : aB A) (hY : aY (A.1 1) x A f) (hk : k < 10) (hv : v = nI k) (he : (aj_pop 1 x).bind (aj_set k 1) = some y) (y15 : y.1 ≤ 15) : stp (fun I F Post => wp_Ma_step_142 Post (nI 2) v I F) (fun J G Post => mst 2 v J G Post) A f y (fun q => q = A.2.1 1 f) := by
  obtain ⟨z, e1, e2⟩ := bind_s he
  cases e2
  subst hv
  have f50 : f < 50 := by have := hb.1; omega
  obtain ⟨p1, p2, p3, -⟩ := aY_pop hY e1
  have hu : aV (A.1 1) 1 (aTop A f) := p3.resolve_left (by decide)
  refine ⟨aLoc (aPop A f) f k (aTop A f), fr_tr fr_pop fr_loc, aB_pop hb, aY_loc p1 hu, Nat.le_succ _, rfl, fun I F hA Post h => c142_w (o := 2) (by decide) (by decide) (by unfold cmb; omega) ⟨fun z => absurd z (by decide), fun z => absurd z (by decide), fun _ => ⟨_, cw_pop hA hf hb p2 ?_, fun _ _ _ q => q⟩, fun z => absurd z (by decide), fun z => absurd z (by decide), fun z => absurd z (by decide), fun z => absurd z (by decide), fun z => absurd z (by decide), fun z => absurd z (by decide), fun z => absurd z (by decide), fun z => absurd z (by decide)⟩, fun J G hB Post h => ms_2 ⟨_, mw_pop hB hf hb p2 ?_, fun _ _ _ q => q⟩⟩
  · intro F1 a1 k1
    exact ⟨_, cw_loc (f := f) a1 hf f50 hk (fun F2 a2 k2 => h I F2 a2 (kF_tr k1 k2)), fun _ _ q => q⟩
  · intro G1 a1 k1
    rw [hB.1, hf, k10, cl (show 10 * f + k < 2 ^ 31 by omega)]
    exact ⟨vp_in_nI (show 10 * f + k < 500 by omega) (by decide), h J _ (mB_loc a1 hk) (kG_tr k1 ⟨fun _ _ _ _ _ => rfl, fun j hj => va_up_ne _ _ (by omega)⟩)⟩
theorem st_4 {k : Nat} (hf : A.1 0 = f + 1) (hb : aB A) (hY : aY (A.1 1) x A f) (hk : k < 10) (hv : v = nI k) (he : (aj_pop 2 x).bind (aj_set k 2) = some y) (y15 : y.1 ≤ 15) : stp (fun I F Post => wp_Ma_step_142 Post (nI 4) v I F) (fun J G Post => mst 4 v J G Post) A f y (fun q => q = A.2.1 1 f) := by
  obtain ⟨z, e1, e2⟩ := bind_s he
  cases e2
  subst hv
  have f50 : f < 50 := by have := hb.1; omega
  obtain ⟨p1, p2, p3, -⟩ := aY_pop hY e1
  have hu : aV (A.1 1) 2 (aTop A f) := p3.resolve_left (by decide)
  refine ⟨aLoc (aPop A f) f k (aTop A f), fr_tr fr_pop fr_loc, aB_pop hb, aY_loc p1 hu, Nat.le_succ _, rfl, fun I F hA Post h => c142_w (o := 4) (by decide) (by decide) (by unfold cmb; omega) ⟨fun z => absurd z (by decide), fun z => absurd z (by decide), fun z => absurd z (by decide), fun z => absurd z (by decide), fun _ => ⟨_, cw_pop hA hf hb p2 ?_, fun _ _ _ q => q⟩, fun z => absurd z (by decide), fun z => absurd z (by decide), fun z => absurd z (by decide), fun z => absurd z (by decide), fun z => absurd z (by decide), fun z => absurd z (by decide)⟩, fun J G hB Post h => ms_4 ⟨_, mw_pop hB hf hb p2 ?_, fun _ _ _ q => q⟩⟩
  · intro F1 a1 k1
    exact ⟨_, cw_loc (f := f) a1 hf f50 hk (fun F2 a2 k2 => h I F2 a2 (kF_tr k1 k2)), fun _ _ q => q⟩
  · intro G1 a1 k1
    rw [hB.1, hf, k10, cl (show 10 * f + k < 2 ^ 31 by omega)]
    exact ⟨vp_in_nI (show 10 * f + k < 500 by omega) (by decide), h J _ (mB_loc a1 hk) (kG_tr k1 ⟨fun _ _ _ _ _ => rfl, fun j hj => va_up_ne _ _ (by omega)⟩)⟩
theorem st_5 (hf : A.1 0 = f + 1) (hb : aB A) (hY : aY (A.1 1) x A f) (he : aj_do P m 5 v x = some y) (y15 : y.1 ≤ 15) : stp (fun I F Post => wp_Ma_step_142 Post (nI 5) v I F) (fun J G Post => mst 5 v J G Post) A f y (fun q => q = A.2.1 1 f) := by
  have he : ((aj_pop 1 x).bind (aj_pops [1])).bind (aj_put 1) = some y := he
  obtain ⟨z2, e2, e3⟩ := bind_s he
  obtain ⟨z1, e1, e2⟩ := bind_s e2
  have e2 : (aj_pop 1 z1).bind some = some z2 := e2
  obtain ⟨z3, e2, e4⟩ := bind_s e2
  cases e4
  cases e3
  obtain ⟨p1, p2, -, -⟩ := aY_pop hY e1
  obtain ⟨r1, r2, -, -⟩ := aY_pop p1 e2
  have hx : (aPop (aPop A f) f).2.1 2 f < 15 := by have := r1.1; have : z2.1 + 1 ≤ 15 := y15; omega
  have hb2 := aB_pop (f := f) (aB_pop (f := f) hb)
  refine ⟨aPush (aPop (aPop A f) f) f (aTop (aPop A f) f + aTop A f), fr_tr fr_pop (fr_tr fr_pop fr_push), aB_push hb2 hx, aY_push r1 aV_1, Nat.le_succ _, rfl, fun I F hA Post h => c142_c (o := 5) (by decide) (by decide) (by unfold cmb; omega) (cw_pop hA hf hb p2 ?_), fun J G hB Post h => ms_5 ⟨_, mw_pop hB hf hb p2 ?_, fun _ _ _ q => q⟩⟩
  · intro F1 a1 k1
    refine cw_pop (f := f) a1 hf (aB_pop hb) r2 ?_
    intro F2 a2 k2
    have q : wp_Fr_push (aTop (aPop A f) f + aTop A f) I F2 (fun I F => Post 1 I F) := cw_push (f := f) a2 hf hb2 hx (fun F3 a3 k3 => h I F3 a3 (kF_tr k1 (kF_tr k2 k3)))
    exact ⟨fun z => absurd z (by decide), fun z => absurd z (by decide), fun z => absurd z (by decide), fun _ => ⟨fun r I1 F1 => r = aTop (aPop A f) f + aTop A f ∧ I1 = I ∧ F1 = F2, ⟨fun _ => ⟨rfl, rfl, rfl⟩, fun z => absurd z (by decide), fun z => absurd z (by decide), fun z => absurd z (by decide), fun z => absurd z (by decide)⟩, fun r I1 F1 w => by obtain ⟨rfl, rfl, rfl⟩ := w; exact ⟨_, q, fun _ _ q => q⟩⟩⟩
  · intro G1 a1 k1
    refine ⟨_, mw_pop (f := f) a1 hf (aB_pop hb) r2 ?_, fun _ _ _ q => q⟩
    intro G2 a2 k2
    have q : wp_MM_pushValue (aTop (aPop A f) f + aTop A f) J G2 Post := mw_push (f := f) a2 hf hb2 hx (fun G3 a3 k3 => h J G3 a3 (kG_tr k1 (kG_tr k2 k3)))
    exact ⟨fun r I1 F1 => r = aTop (aPop A f) f + aTop A f ∧ I1 = J ∧ F1 = G2, ⟨fun _ => ⟨rfl, rfl, rfl⟩, fun z => absurd z (by decide), fun z => absurd z (by decide), fun z => absurd z (by decide), fun z => absurd z (by decide)⟩, fun r I1 F1 w => by obtain ⟨rfl, rfl, rfl⟩ := w; exact ⟨_, q, fun _ _ q => q⟩⟩
theorem st_6 (hf : A.1 0 = f + 1) (hb : aB A) (hY : aY (A.1 1) x A f) (he : aj_do P m 6 v x = some y) (y15 : y.1 ≤ 15) : stp (fun I F Post => wp_Ma_step_142 Post (nI 6) v I F) (fun J G Post => mst 6 v J G Post) A f y (fun q => q = A.2.1 1 f) := by
  have he : ((aj_pop 1 x).bind (aj_pops [1])).bind (aj_put 1) = some y := he
  obtain ⟨z2, e2, e3⟩ := bind_s he
  obtain ⟨z1, e1, e2⟩ := bind_s e2
  have e2 : (aj_pop 1 z1).bind some = some z2 := e2
  obtain ⟨z3, e2, e4⟩ := bind_s e2
  cases e4
  cases e3
  obtain ⟨p1, p2, -, -⟩ := aY_pop hY e1
  obtain ⟨r1, r2, -, -⟩ := aY_pop p1 e2
  have hx : (aPop (aPop A f) f).2.1 2 f < 15 := by have := r1.1; have : z2.1 + 1 ≤ 15 := y15; omega
  have hb2 := aB_pop (f := f) (aB_pop (f := f) hb)
  refine ⟨aPush (aPop (aPop A f) f) f (aTop (aPop A f) f - aTop A f), fr_tr fr_pop (fr_tr fr_pop fr_push), aB_push hb2 hx, aY_push r1 aV_1, Nat.le_succ _, rfl, fun I F hA Post h => c142_c (o := 6) (by decide) (by decide) (by unfold cmb; omega) (cw_pop hA hf hb p2 ?_), fun J G hB Post h => ms_6 ⟨_, mw_pop hB hf hb p2 ?_, fun _ _ _ q => q⟩⟩
  · intro F1 a1 k1
    refine cw_pop (f := f) a1 hf (aB_pop hb) r2 ?_
    intro F2 a2 k2
    have q : wp_Fr_push (aTop (aPop A f) f - aTop A f) I F2 (fun I F => Post 1 I F) := cw_push (f := f) a2 hf hb2 hx (fun F3 a3 k3 => h I F3 a3 (kF_tr k1 (kF_tr k2 k3)))
    exact ⟨fun z => absurd z (by decide), fun z => absurd z (by decide), fun z => absurd z (by decide), fun _ => ⟨fun r I1 F1 => r = aTop (aPop A f) f - aTop A f ∧ I1 = I ∧ F1 = F2, ⟨fun z => absurd z (by decide), fun _ => ⟨rfl, rfl, rfl⟩, fun z => absurd z (by decide), fun z => absurd z (by decide), fun z => absurd z (by decide)⟩, fun r I1 F1 w => by obtain ⟨rfl, rfl, rfl⟩ := w; exact ⟨_, q, fun _ _ q => q⟩⟩⟩
  · intro G1 a1 k1
    refine ⟨_, mw_pop (f := f) a1 hf (aB_pop hb) r2 ?_, fun _ _ _ q => q⟩
    intro G2 a2 k2
    have q : wp_MM_pushValue (aTop (aPop A f) f - aTop A f) J G2 Post := mw_push (f := f) a2 hf hb2 hx (fun G3 a3 k3 => h J G3 a3 (kG_tr k1 (kG_tr k2 k3)))
    exact ⟨fun r I1 F1 => r = aTop (aPop A f) f - aTop A f ∧ I1 = J ∧ F1 = G2, ⟨fun z => absurd z (by decide), fun _ => ⟨rfl, rfl, rfl⟩, fun z => absurd z (by decide), fun z => absurd z (by decide), fun z => absurd z (by decide)⟩, fun r I1 F1 w => by obtain ⟨rfl, rfl, rfl⟩ := w; exact ⟨_, q, fun _ _ q => q⟩⟩
theorem st_7 (hf : A.1 0 = f + 1) (hb : aB A) (hY : aY (A.1 1) x A f) (he : aj_do P m 7 v x = some y) (y15 : y.1 ≤ 15) : stp (fun I F Post => wp_Ma_step_142 Post (nI 7) v I F) (fun J G Post => mst 7 v J G Post) A f y (fun q => q = A.2.1 1 f) := by
  have he : ((aj_pop 1 x).bind (aj_pops [1])).bind (aj_put 1) = some y := he
  obtain ⟨z2, e2, e3⟩ := bind_s he
  obtain ⟨z1, e1, e2⟩ := bind_s e2
  have e2 : (aj_pop 1 z1).bind some = some z2 := e2
  obtain ⟨z3, e2, e4⟩ := bind_s e2
  cases e4
  cases e3
  obtain ⟨p1, p2, -, -⟩ := aY_pop hY e1
  obtain ⟨r1, r2, -, -⟩ := aY_pop p1 e2
  have hx : (aPop (aPop A f) f).2.1 2 f < 15 := by have := r1.1; have : z2.1 + 1 ≤ 15 := y15; omega
  have hb2 := aB_pop (f := f) (aB_pop (f := f) hb)
  refine ⟨aPush (aPop (aPop A f) f) f (aTop (aPop A f) f * aTop A f), fr_tr fr_pop (fr_tr fr_pop fr_push), aB_push hb2 hx, aY_push r1 aV_1, Nat.le_succ _, rfl, fun I F hA Post h => c142_c (o := 7) (by decide) (by decide) (by unfold cmb; omega) (cw_pop hA hf hb p2 ?_), fun J G hB Post h => ms_7 ⟨_, mw_pop hB hf hb p2 ?_, fun _ _ _ q => q⟩⟩
  · intro F1 a1 k1
    refine cw_pop (f := f) a1 hf (aB_pop hb) r2 ?_
    intro F2 a2 k2
    have q : wp_Fr_push (aTop (aPop A f) f * aTop A f) I F2 (fun I F => Post 1 I F) := cw_push (f := f) a2 hf hb2 hx (fun F3 a3 k3 => h I F3 a3 (kF_tr k1 (kF_tr k2 k3)))
    exact ⟨fun z => absurd z (by decide), fun z => absurd z (by decide), fun z => absurd z (by decide), fun _ => ⟨fun r I1 F1 => r = aTop (aPop A f) f * aTop A f ∧ I1 = I ∧ F1 = F2, ⟨fun z => absurd z (by decide), fun z => absurd z (by decide), fun _ => ⟨rfl, rfl, rfl⟩, fun z => absurd z (by decide), fun z => absurd z (by decide)⟩, fun r I1 F1 w => by obtain ⟨rfl, rfl, rfl⟩ := w; exact ⟨_, q, fun _ _ q => q⟩⟩⟩
  · intro G1 a1 k1
    refine ⟨_, mw_pop (f := f) a1 hf (aB_pop hb) r2 ?_, fun _ _ _ q => q⟩
    intro G2 a2 k2
    have q : wp_MM_pushValue (aTop (aPop A f) f * aTop A f) J G2 Post := mw_push (f := f) a2 hf hb2 hx (fun G3 a3 k3 => h J G3 a3 (kG_tr k1 (kG_tr k2 k3)))
    exact ⟨fun r I1 F1 => r = aTop (aPop A f) f * aTop A f ∧ I1 = J ∧ F1 = G2, ⟨fun z => absurd z (by decide), fun z => absurd z (by decide), fun _ => ⟨rfl, rfl, rfl⟩, fun z => absurd z (by decide), fun z => absurd z (by decide)⟩, fun r I1 F1 w => by obtain ⟨rfl, rfl, rfl⟩ := w; exact ⟨_, q, fun _ _ q => q⟩⟩
theorem st_8 (hf : A.1 0 = f + 1) (hb : aB A) (hY : aY (A.1 1) x A f) (hz : ¬ aTop A f = 0) (he : aj_do P m 8 v x = some y) (y15 : y.1 ≤ 15) : stp (fun I F Post => wp_Ma_step_142 Post (nI 8) v I F) (fun J G Post => mst 8 v J G Post) A f y (fun q => q = A.2.1 1 f) := by
  have he : ((aj_pop 1 x).bind (aj_pops [1])).bind (aj_put 1) = some y := he
  obtain ⟨z2, e2, e3⟩ := bind_s he
  obtain ⟨z1, e1, e2⟩ := bind_s e2
  have e2 : (aj_pop 1 z1).bind some = some z2 := e2
  obtain ⟨z3, e2, e4⟩ := bind_s e2
  cases e4
  cases e3
  obtain ⟨p1, p2, -, -⟩ := aY_pop hY e1
  obtain ⟨r1, r2, -, -⟩ := aY_pop p1 e2
  have hx : (aPop (aPop A f) f).2.1 2 f < 15 := by have := r1.1; have : z2.1 + 1 ≤ 15 := y15; omega
  have hb2 := aB_pop (f := f) (aB_pop (f := f) hb)
  refine ⟨aPush (aPop (aPop A f) f) f (aTop (aPop A f) f / aTop A f), fr_tr fr_pop (fr_tr fr_pop fr_push), aB_push hb2 hx, aY_push r1 aV_1, Nat.le_succ _, rfl, fun I F hA Post h => c142_c (o := 8) (by decide) (by decide) (by unfold cmb; omega) (cw_pop hA hf hb p2 ?_), fun J G hB Post h => ms_8 ⟨_, mw_pop hB hf hb p2 ?_, fun _ _ _ q => q⟩⟩
  · intro F1 a1 k1
    refine cw_pop (f := f) a1 hf (aB_pop hb) r2 ?_
    intro F2 a2 k2
    have q : wp_Fr_push (aTop (aPop A f) f / aTop A f) I F2 (fun I F => Post 1 I F) := cw_push (f := f) a2 hf hb2 hx (fun F3 a3 k3 => h I F3 a3 (kF_tr k1 (kF_tr k2 k3)))
    exact ⟨fun z => absurd z (by decide), fun z => absurd z (by decide), fun z => absurd z (by decide), fun _ => ⟨fun r I1 F1 => r = aTop (aPop A f) f / aTop A f ∧ I1 = I ∧ F1 = F2, ⟨fun z => absurd z (by decide), fun z => absurd z (by decide), fun z => absurd z (by decide), fun _ => ⟨fun _ => ⟨hz, rfl, rfl, rfl⟩, fun w => absurd w hz⟩, fun z => absurd z (by decide)⟩, fun r I1 F1 w => by obtain ⟨rfl, rfl, rfl⟩ := w; exact ⟨_, q, fun _ _ q => q⟩⟩⟩
  · intro G1 a1 k1
    refine ⟨_, mw_pop (f := f) a1 hf (aB_pop hb) r2 ?_, fun _ _ _ q => q⟩
    intro G2 a2 k2
    have q : wp_MM_pushValue (aTop (aPop A f) f / aTop A f) J G2 Post := mw_push (f := f) a2 hf hb2 hx (fun G3 a3 k3 => h J G3 a3 (kG_tr k1 (kG_tr k2 k3)))
    exact ⟨fun r I1 F1 => r = aTop (aPop A f) f / aTop A f ∧ I1 = J ∧ F1 = G2, ⟨fun z => absurd z (by decide), fun z => absurd z (by decide), fun z => absurd z (by decide), fun _ => ⟨hz, rfl, rfl, rfl⟩, fun z => absurd z (by decide)⟩, fun r I1 F1 w => by obtain ⟨rfl, rfl, rfl⟩ := w; exact ⟨_, q, fun _ _ q => q⟩⟩
theorem st_9 (hf : A.1 0 = f + 1) (hb : aB A) (hY : aY (A.1 1) x A f) (hz : ¬ aTop A f = 0) (he : aj_do P m 9 v x = some y) (y15 : y.1 ≤ 15) : stp (fun I F Post => wp_Ma_step_142 Post (nI 9) v I F) (fun J G Post => mst 9 v J G Post) A f y (fun q => q = A.2.1 1 f) := by
  have he : ((aj_pop 1 x).bind (aj_pops [1])).bind (aj_put 1) = some y := he
  obtain ⟨z2, e2, e3⟩ := bind_s he
  obtain ⟨z1, e1, e2⟩ := bind_s e2
  have e2 : (aj_pop 1 z1).bind some = some z2 := e2
  obtain ⟨z3, e2, e4⟩ := bind_s e2
  cases e4
  cases e3
  obtain ⟨p1, p2, -, -⟩ := aY_pop hY e1
  obtain ⟨r1, r2, -, -⟩ := aY_pop p1 e2
  have hx : (aPop (aPop A f) f).2.1 2 f < 15 := by have := r1.1; have : z2.1 + 1 ≤ 15 := y15; omega
  have hb2 := aB_pop (f := f) (aB_pop (f := f) hb)
  refine ⟨aPush (aPop (aPop A f) f) f (aTop (aPop A f) f - aTop (aPop A f) f / aTop A f * aTop A f), fr_tr fr_pop (fr_tr fr_pop fr_push), aB_push hb2 hx, aY_push r1 aV_1, Nat.le_succ _, rfl, fun I F hA Post h => c142_c (o := 9) (by decide) (by decide) (by unfold cmb; omega) (cw_pop hA hf hb p2 ?_), fun J G hB Post h => ms_9 ⟨_, mw_pop hB hf hb p2 ?_, fun _ _ _ q => q⟩⟩
  · intro F1 a1 k1
    refine cw_pop (f := f) a1 hf (aB_pop hb) r2 ?_
    intro F2 a2 k2
    have q : wp_Fr_push (aTop (aPop A f) f - aTop (aPop A f) f / aTop A f * aTop A f) I F2 (fun I F => Post 1 I F) := cw_push (f := f) a2 hf hb2 hx (fun F3 a3 k3 => h I F3 a3 (kF_tr k1 (kF_tr k2 k3)))
    exact ⟨fun z => absurd z (by decide), fun z => absurd z (by decide), fun z => absurd z (by decide), fun _ => ⟨fun r I1 F1 => r = aTop (aPop A f) f - aTop (aPop A f) f / aTop A f * aTop A f ∧ I1 = I ∧ F1 = F2, ⟨fun z => absurd z (by decide), fun z => absurd z (by decide), fun z => absurd z (by decide), fun z => absurd z (by decide), fun _ => ⟨fun _ => ⟨hz, rfl, rfl, rfl⟩, fun w => absurd w hz⟩⟩, fun r I1 F1 w => by obtain ⟨rfl, rfl, rfl⟩ := w; exact ⟨_, q, fun _ _ q => q⟩⟩⟩
  · intro G1 a1 k1
    refine ⟨_, mw_pop (f := f) a1 hf (aB_pop hb) r2 ?_, fun _ _ _ q => q⟩
    intro G2 a2 k2
    have q : wp_MM_pushValue (aTop (aPop A f) f - aTop (aPop A f) f / aTop A f * aTop A f) J G2 Post := mw_push (f := f) a2 hf hb2 hx (fun G3 a3 k3 => h J G3 a3 (kG_tr k1 (kG_tr k2 k3)))
    exact ⟨fun r I1 F1 => r = aTop (aPop A f) f - aTop (aPop A f) f / aTop A f * aTop A f ∧ I1 = J ∧ F1 = G2, ⟨fun z => absurd z (by decide), fun z => absurd z (by decide), fun z => absurd z (by decide), fun z => absurd z (by decide), fun _ => ⟨hz, rfl, rfl, rfl⟩⟩, fun r I1 F1 w => by obtain ⟨rfl, rfl, rfl⟩ := w; exact ⟨_, q, fun _ _ q => q⟩⟩
theorem st_10 {n : Nat} (hf : A.1 0 = f + 1) (hb : aB A) (hY : aY (A.1 1) x A f) (hH : aH A) (hn : aTop A f = nI n) (h2 : A.1 1 < 200) (h3 : A.1 2 + n ≤ 2000) (he : aj_do P m 10 v x = some y) (y15 : y.1 ≤ 15) : stp (fun I F Post => wp_Ma_step_142 Post (nI 10) v I F) (fun J G Post => mst 10 v J G Post) A f y (fun q => q = A.2.1 1 f) := by
  have he : ((aj_pop 1 x).bind some).bind (aj_put 2) = some y := he
  obtain ⟨z2, e2, e3⟩ := bind_s he
  obtain ⟨z1, e1, e2⟩ := bind_s e2
  cases e2
  cases e3
  obtain ⟨p1, p2, -, -⟩ := aY_pop hY e1
  have hx : (aPop A f).2.1 2 f < 15 := by have := p1.1; have : z2.1 + 1 ≤ 15 := y15; omega
  have hx2 : (aMake (aPop A f) n).2.1 2 f < 15 := hx
  have hb1 := aB_pop (f := f) hb
  have hb2 : aB (aMake (aPop A f) n) := hb1
  have hH1 : aH (aPop A f) := hH
  have y1' : aY ((aMake (aPop A f) n).1 1) z2 (aMake (aPop A f) n) f := aY_le (Nat.le_succ _) p1
  refine ⟨aPush (aMake (aPop A f) n) f (nI (A.1 1)), fr_tr fr_pop (fr_tr (fr_make h2 h3) fr_push), aB_push hb2 hx2, aY_push y1' (show aV (A.1 1 + 1) 2 (nI (A.1 1)) from fun _ => Or.inr (vp_in_nI (by omega) (by have := hH.1; omega))), Nat.le_succ _, rfl, fun I F hA Post h => c142_w (o := 10) (by decide) (by decide) (by unfold cmb; omega) ⟨fun z => absurd z (by decide), fun z => absurd z (by decide), fun z => absurd z (by decide), fun z => absurd z (by decide), fun z => absurd z (by decide), fun _ => ⟨_, cw_pop hA hf hb p2 ?_, fun _ _ _ q => q⟩, fun z => absurd z (by decide), fun z => absurd z (by decide), fun z => absurd z (by decide), fun z => absurd z (by decide), fun z => absurd z (by decide)⟩, fun J G hB Post h => ms_10 (mw_pop hB hf hb p2 ?_)⟩
  · intro F1 a1 k1
    rw [hn]
    refine ⟨_, cw_make a1 hH1 h2 h3 ?_, fun _ _ _ q => q⟩
    intro I2 F2 a2 k2
    exact ⟨_, cw_push (f := f) a2 hf hb2 hx2 (fun F3 a3 k3 => h I2 F3 a3 (kF_tr k1 (kF_tr k2 k3))), fun _ _ q => q⟩
  · intro G1 a1 k1
    rw [hn]
    refine ⟨_, mw_make a1 hH1 h2 h3 ?_, fun _ _ _ q => q⟩
    intro J2 G2 a2 k2
    exact ⟨_, mw_push (f := f) a2 hf hb2 hx2 (fun G3 a3 k3 => h J2 G3 a3 (kG_tr k1 (kG_tr k2 k3))), fun _ _ q => q⟩
theorem st_11 {a : Nat} (hf : A.1 0 = f + 1) (hb : aB A) (hY : aY (A.1 1) x A f) (hH : aH A) (hn : aTop A f = nI a) (ha : a < A.1 1) (he : aj_do P m 11 v x = some y) (y15 : y.1 ≤ 15) : stp (fun I F Post => wp_Ma_step_142 Post (nI 11) v I F) (fun J G Post => mst 11 v J G Post) A f y (fun q => q = A.2.1 1 f) := by
  have he : ((aj_pop 2 x).bind some).bind (aj_put 1) = some y := he
  obtain ⟨z2, e2, e3⟩ := bind_s he
  obtain ⟨z1, e1, e2⟩ := bind_s e2
  cases e2
  cases e3
  obtain ⟨p1, p2, -, -⟩ := aY_pop hY e1
  have hx : (aPop A f).2.1 2 f < 15 := by have := p1.1; have : z2.1 + 1 ≤ 15 := y15; omega
  have hb1 := aB_pop (f := f) hb
  have hH1 : aH (aPop A f) := hH
  have h200 := hH.1
  refine ⟨aPush (aPop A f) f (nI (A.2.1 4 a)), fr_tr fr_pop fr_push, aB_push hb1 hx, aY_push p1 aV_1, Nat.le_succ _, rfl, fun I F hA Post h => c142_w (o := 11) (by decide) (by decide) (by unfold cmb; omega) ⟨fun z => absurd z (by decide), fun z => absurd z (by decide), fun z => absurd z (by decide), fun z => absurd z (by decide), fun z => absurd z (by decide), fun z => absurd z (by decide), fun z => absurd z (by decide), fun z => absurd z (by decide), fun z => absurd z (by decide), fun z => absurd z (by decide), fun _ => ⟨_, cw_pop hA hf hb p2 ?_, fun _ _ _ q => q⟩⟩, fun J G hB Post h => ms_11 (mw_pop hB hf hb p2 ?_)⟩
  · intro F1 a1 k1
    rw [hn]
    exact ⟨_, (c_hlenOf a1 hH1 ha).mpr ⟨_, cw_push (f := f) a1 hf hb1 hx (fun F3 a3 k3 => h I F3 a3 (kF_tr k1 k3)), fun _ _ q => q⟩, fun _ _ _ q => q⟩
  · intro G1 a1 k1
    rw [hn, cl (show a < 2 ^ 31 by omega), (a1.2.2.2.2.2.1 a ha).2]
    exact ⟨vp_in_nI (show a < 201 by omega) (by decide), _, mw_push (f := f) a1 hf hb1 hx (fun G3 a3 k3 => h J G3 a3 (kG_tr k1 k3)), fun _ _ q => q⟩
theorem st_12 {a j : Nat} (hf : A.1 0 = f + 1) (hb : aB A) (hY : aY (A.1 1) x A f) (hH : aH A) (hn : aTop (aPop A f) f = nI a) (ha : a < A.1 1) (hj1 : aTop A f = nI j) (hj : j < A.2.1 4 a) (he : aj_do P m 12 v x = some y) (y15 : y.1 ≤ 15) : stp (fun I F Post => wp_Ma_step_142 Post (nI 12) v I F) (fun J G Post => mst 12 v J G Post) A f y (fun q => q = A.2.1 1 f) := by
  have he : ((aj_pop 1 x).bind (aj_pops [2])).bind (aj_put 1) = some y := he
  obtain ⟨z2, e2, e3⟩ := bind_s he
  obtain ⟨z1, e1, e2⟩ := bind_s e2
  have e2 : (aj_pop 2 z1).bind some = some z2 := e2
  obtain ⟨z3, e2, e4⟩ := bind_s e2
  cases e4
  cases e3
  obtain ⟨p1, p2, -, -⟩ := aY_pop hY e1
  obtain ⟨r1, r2, -, -⟩ := aY_pop p1 e2
  have hx : (aPop (aPop A f) f).2.1 2 f < 15 := by have := r1.1; have : z2.1 + 1 ≤ 15 := y15; omega
  have hb2 := aB_pop (f := f) (aB_pop (f := f) hb)
  have hH1 : aH (aPop (aPop A f) f) := hH
  have h200 := hH.1
  have h2000 := hH.2.1
  have hsum := hH.2.2 a ha
  refine ⟨aPush (aPop (aPop A f) f) f (A.2.2 2 0 (A.2.1 3 a + j)), fr_tr fr_pop (fr_tr fr_pop fr_push), aB_push hb2 hx, aY_push r1 aV_1, Nat.le_succ _, rfl, fun I F hA Post h => c142_c (o := 12) (by decide) (by decide) (by unfold cmb; omega) (cw_pop hA hf hb p2 ?_), fun J G hB Post h => ms_12 (mw_pop hB hf hb p2 ?_)⟩
  · intro F1 a1 k1
    refine cw_pop (f := f) a1 hf (aB_pop hb) r2 ?_
    intro F2 a2 k2
    rw [hn, hj1]
    exact ⟨fun _ => ⟨_, (c_hread a2 hH1 ha hj).mpr ⟨_, cw_push (f := f) a2 hf hb2 hx (fun F3 a3 k3 => h I F3 a3 (kF_tr k1 (kF_tr k2 k3))), fun _ _ q => q⟩, fun _ _ _ q => q⟩, fun z => absurd z (by decide), fun z => absurd z (by decide), fun z => absurd z (by decide)⟩
  · intro G1 a1 k1
    refine ⟨_, mw_pop (f := f) a1 hf (aB_pop hb) r2 ?_, fun _ _ _ q => q⟩
    intro G2 a2 k2
    have e24 : G2 24 (A.2.1 3 a + j) = A.2.2 2 0 (A.2.1 3 a + j) := a2.2.2.2.2.2.2.1 _ (by show A.2.1 3 a + j < A.1 2; omega)
    have e22 : G2 22 a = nI (A.2.1 3 a) := (a2.2.2.2.2.2.1 a ha).1
    rw [hn, hj1, cl (show a < 2 ^ 31 by omega), e22, nI_add, cl (show A.2.1 3 a + j < 2 ^ 31 by omega), e24]
    exact ⟨vp_in_nI (show a < 201 by omega) (by decide), vp_in_nI (show A.2.1 3 a + j < 2000 by omega) (by decide), _, mw_push (f := f) a2 hf hb2 hx (fun G3 a3 k3 => h J G3 a3 (kG_tr k1 (kG_tr k2 k3))), fun _ _ q => q⟩
theorem st_13 {a j : Nat} (hf : A.1 0 = f + 1) (hb : aB A) (hY : aY (A.1 1) x A f) (hH : aH A) (hn : aTop (aPop (aPop A f) f) f = nI a) (ha : a < A.1 1) (hj1 : aTop (aPop A f) f = nI j) (hj : j < A.2.1 4 a) (he : aj_do P m 13 v x = some y) (y15 : y.1 ≤ 15) : stp (fun I F Post => wp_Ma_step_142 Post (nI 13) v I F) (fun J G Post => mst 13 v J G Post) A f y (fun q => q = A.2.1 1 f) := by
  have he : ((aj_pop 1 x).bind (aj_pops [1, 2])).bind (aj_put 0) = some y := he
  obtain ⟨z2, e2, e3⟩ := bind_s he
  obtain ⟨z1, e1, e2⟩ := bind_s e2
  have e2 : (aj_pop 1 z1).bind (aj_pops [2]) = some z2 := e2
  obtain ⟨z3, e2a, e4⟩ := bind_s e2
  have e4 : (aj_pop 2 z3).bind some = some z2 := e4
  obtain ⟨z4, e4a, e5⟩ := bind_s e4
  cases e5
  cases e3
  obtain ⟨p1, p2, -, -⟩ := aY_pop hY e1
  obtain ⟨r1, r2, -, -⟩ := aY_pop p1 e2a
  obtain ⟨s1, s2, -, -⟩ := aY_pop r1 e4a
  have hb1 := aB_pop (f := f) hb
  have hb2 := aB_pop (f := f) hb1
  have hb3 := aB_pop (f := f) hb2
  have hH1 : aH (aPop (aPop (aPop A f) f) f) := hH
  have h200 := hH.1
  have h2000 := hH.2.1
  have hsum := hH.2.2 a ha
  refine ⟨aCell (aPop (aPop (aPop A f) f) f) (A.2.1 3 a + j) (aTop A f), fr_tr fr_pop (fr_tr fr_pop (fr_tr fr_pop fr_cell)), hb3, s1, Nat.le_succ _, rfl, fun I F hA Post h => c142_c (o := 13) (by decide) (by decide) (by unfold cmb; omega) (cw_pop hA hf hb p2 ?_), fun J G hB Post h => ms_13 (mw_pop hB hf hb p2 ?_)⟩
  · intro F1 a1 k1
    refine cw_pop (f := f) a1 hf hb1 r2 ?_
    intro F2 a2 k2
    refine ⟨fun z => absurd z (by decide), fun _ => ⟨_, cw_pop (f := f) a2 hf hb2 s2 ?_, fun _ _ _ q => q⟩, fun z => absurd z (by decide), fun z => absurd z (by decide)⟩
    intro F3 a3 k3
    rw [hn, hj1]
    exact ⟨_, cw_write a3 hH1 ha hj (fun F4 a4 k4 => h I F4 a4 (kF_tr k1 (kF_tr k2 (kF_tr k3 k4)))), fun _ _ q => q⟩
  · intro G1 a1 k1
    refine ⟨_, mw_pop (f := f) a1 hf hb1 r2 ?_, fun _ _ _ q => q⟩
    intro G2 a2 k2
    refine ⟨_, mw_pop (f := f) a2 hf hb2 s2 ?_, fun _ _ _ q => q⟩
    intro G3 a3 k3
    have e22 : G3 22 a = nI (A.2.1 3 a) := (a3.2.2.2.2.2.1 a ha).1
    rw [hn, hj1, cl (show a < 2 ^ 31 by omega), e22, nI_add, cl (show A.2.1 3 a + j < 2 ^ 31 by omega)]
    exact ⟨vp_in_nI (show a < 201 by omega) (by decide), vp_in_nI (show A.2.1 3 a + j < 2000 by omega) (by decide), h J _ (mB_cell a3) (kG_tr k1 (kG_tr k2 (kG_tr k3 ⟨fun _ _ _ _ _ => rfl, fun j hj => va_up_ne _ _ (by omega)⟩)))⟩
theorem st_20 (hf : A.1 0 = f + 1) (hb : aB A) (hY : aY (A.1 1) x A f) (he : aj_do P m 20 v x = some y) (y15 : y.1 ≤ 15) : stp (fun I F Post => wp_Ma_step_142 Post (nI 20) v I F) (fun J G Post => mst 20 v J G Post) A f y (fun q => q = A.2.1 1 f) := by
  have he : aj_dup x = some y := he
  unfold aj_dup at he
  by_cases q : x.1 = 0
  · rw [if_pos q] at he; cases he
  · rw [if_neg q] at he
    cases he
    have e1 : aj_pop 0 x = some (x.1 - 1, x.2) := aj_pop_y q (Or.inl rfl)
    obtain ⟨p1, p2, -, p4⟩ := aY_pop hY e1
    have hx : A.2.1 2 f < 15 := by have := hY.1; have : x.1 + 1 ≤ 15 := y15; omega
    have hx1 : (aPop A f).2.1 2 f < 15 := by
      show va_up (A.2.1 2) f (A.2.1 2 f - 1) f < 15
      rw [va_up_self]; omega
    refine ⟨aPush A f (aTop A f), fr_push, aB_push hb hx, aY_push hY p4, Nat.le_succ _, rfl, fun I F hA Post h => c142_w (o := 20) (by decide) (by decide) (by unfold cmb; omega) ⟨fun z => absurd z (by decide), fun z => absurd z (by decide), fun z => absurd z (by decide), fun z => absurd z (by decide), fun z => absurd z (by decide), fun z => absurd z (by decide), fun z => absurd z (by decide), fun _ => ⟨_, (cw_top (k := 0) hA hf hb p2).mpr ⟨_, cw_push (v := aTop A f) hA hf hb hx (fun F3 a3 k3 => h I F3 a3 k3), fun _ _ q => q⟩, fun _ _ _ q => q⟩, fun z => absurd z (by decide), fun z => absurd z (by decide), fun z => absurd z (by decide)⟩, fun J G hB Post h => ms_20 (mw_pop hB hf hb p2 ?_)⟩
    intro G1 a1 k1
    refine ⟨_, mw_push (f := f) (v := aTop A f) a1 hf (aB_pop hb) hx1 ?_, fun _ _ q => q⟩
    intro G2 a2 k2
    rw [aPush_pop p2] at a2
    exact ⟨_, mw_push (f := f) a2 hf hb hx (fun G3 a3 k3 => h J G3 a3 (kG_tr k1 (kG_tr k2 k3))), fun _ _ q => q⟩
theorem st_21 (hf : A.1 0 = f + 1) (hb : aB A) (hY : aY (A.1 1) x A f) (he : aj_do P m 21 v x = some y) (y15 : y.1 ≤ 15) : stp (fun I F Post => wp_Ma_step_142 Post (nI 21) v I F) (fun J G Post => mst 21 v J G Post) A f y (fun q => q = A.2.1 1 f) := by
  have he : aj_pop 0 x = some y := he
  obtain ⟨p1, p2, -, -⟩ := aY_pop hY he
  exact ⟨aPop A f, fr_pop, aB_pop hb, p1, Nat.le_succ _, rfl, fun I F hA Post h => c142_w (o := 21) (by decide) (by decide) (by unfold cmb; omega) ⟨fun z => absurd z (by decide), fun z => absurd z (by decide), fun z => absurd z (by decide), fun z => absurd z (by decide), fun z => absurd z (by decide), fun z => absurd z (by decide), fun z => absurd z (by decide), fun z => absurd z (by decide), fun _ => ⟨_, cw_pop hA hf hb p2 (fun F1 a1 k1 => h I F1 a1 k1), fun _ _ _ q => q⟩, fun z => absurd z (by decide), fun z => absurd z (by decide)⟩, fun J G hB Post h => ms_21 (mw_pop hB hf hb p2 (fun G1 a1 k1 => h J G1 a1 k1))⟩
theorem st_22 (hf : A.1 0 = f + 1) (hb : aB A) (hY : aY (A.1 1) x A f) (he : aj_do P m 22 v x = some y) (y15 : y.1 ≤ 15) : stp (fun I F Post => wp_Ma_step_142 Post (nI 22) v I F) (fun J G Post => mst 22 v J G Post) A f y (fun q => q = A.2.1 1 f) := by
  have he : aj_swap x = some y := he
  unfold aj_swap at he
  by_cases q : x.1 < 2
  · rw [if_pos q] at he; cases he
  · rw [if_neg q] at he
    cases he
    have e1 : aj_pop 0 x = some (x.1 - 1, x.2) := aj_pop_y (by omega) (Or.inl rfl)
    have e2 : aj_pop 0 (x.1 - 1, x.2) = some (x.1 - 1 - 1, x.2) := aj_pop_y (by show ¬ x.1 - 1 = 0; omega) (Or.inl rfl)
    obtain ⟨p1, p2, -, p4⟩ := aY_pop hY e1
    obtain ⟨r1, r2, -, r4⟩ := aY_pop p1 e2
    have hb1 := aB_pop (f := f) hb
    have hb2 := aB_pop (f := f) hb1
    have h15 := hb.2 f (by omega)
    have hx2 : (aPop (aPop A f) f).2.1 2 f < 15 := by have := r1.1; have := hY.1; have : x.1 - 1 - 1 = (aPop (aPop A f) f).2.1 2 f := r1.1; omega
    have hx3 : (aPush (aPop (aPop A f) f) f (aTop A f)).2.1 2 f < 15 := by
      show va_up ((aPop (aPop A f) f).2.1 2) f ((aPop (aPop A f) f).2.1 2 f + 1) f < 15
      rw [va_up_self]
      have : x.1 - 1 - 1 = (aPop (aPop A f) f).2.1 2 f := r1.1
      have := hY.1
      omega
    have hb3 := aB_push (f := f) (v := aTop A f) hb2 hx2
    have r4 : aV (A.1 1) (x.2.1 (x.1 - 2)) (aTop (aPop A f) f) := by
      have r4 : aV (A.1 1) (x.2.1 (x.1 - 1 - 1)) (aTop (aPop A f) f) := r4
      rw [show x.1 - 1 - 1 = x.1 - 2 by omega] at r4
      exact r4
    have hy := aY_push (aY_push r1 p4) r4
    have ey : ((x.1 - 1 - 1 + 1 + 1, va_up (va_up x.2.1 (x.1 - 1 - 1) (x.2.1 (x.1 - 1))) (x.1 - 1 - 1 + 1) (x.2.1 (x.1 - 2)), x.2.2) : aj_S) = (x.1, va_up (va_up x.2.1 (x.1 - 2) (x.2.1 (x.1 - 1))) (x.1 - 1) (x.2.1 (x.1 - 2)), x.2.2) := by
      rw [show x.1 - 1 - 1 + 1 + 1 = x.1 by omega, show x.1 - 1 - 1 + 1 = x.1 - 1 by omega, show x.1 - 1 - 1 = x.1 - 2 by omega]
    refine ⟨aPush (aPush (aPop (aPop A f) f) f (aTop A f)) f (aTop (aPop A f) f), fr_tr fr_pop (fr_tr fr_pop (fr_tr fr_push fr_push)), aB_push hb3 hx3, by rw [← ey]; exact hy, Nat.le_succ _, rfl, fun I F hA Post h => c142_c (o := 22) (by decide) (by decide) (by unfold cmb; omega) (cw_pop hA hf hb p2 ?_), fun J G hB Post h => ms_22 (mw_pop hB hf hb p2 ?_)⟩
    · intro F1 a1 k1
      refine cw_pop (f := f) a1 hf hb1 r2 ?_
      intro F2 a2 k2
      refine ⟨fun z => absurd z (by decide), fun z => absurd z (by decide), fun _ => ⟨_, cw_push (f := f) a2 hf hb2 hx2 ?_, fun _ _ q => q⟩, fun z => absurd z (by decide)⟩
      intro F3 a3 k3
      exact ⟨_, cw_push (f := f) a3 hf hb3 hx3 (fun F4 a4 k4 => h I F4 a4 (kF_tr k1 (kF_tr k2 (kF_tr k3 k4)))), fun _ _ q => q⟩
    · intro G1 a1 k1
      refine ⟨_, mw_pop (f := f) a1 hf hb1 r2 ?_, fun _ _ _ q => q⟩
      intro G2 a2 k2
      refine ⟨_, mw_push (f := f) a2 hf hb2 hx2 ?_, fun _ _ q => q⟩
      intro G3 a3 k3
      exact ⟨_, mw_push (f := f) a3 hf hb3 hx3 (fun G4 a4 k4 => h J G4 a4 (kG_tr k1 (kG_tr k2 (kG_tr k3 k4)))), fun _ _ q => q⟩
theorem st_25 (hf : A.1 0 = f + 1) (hb : aB A) (hY : aY (A.1 1) x A f) (h3 : A.1 3 < 2 ^ 30) (he : aj_do P m 25 v x = some y) (y15 : y.1 ≤ 15) : stp (fun I F Post => wp_Ma_step_142 Post (nI 25) v I F) (fun J G Post => mst 25 v J G Post) A f y (fun q => q = A.2.1 1 f) := by
  have he : ((aj_pop 1 x).bind some).bind (aj_put 0) = some y := he
  obtain ⟨z2, e2, e3⟩ := bind_s he
  obtain ⟨z1, e1, e2⟩ := bind_s e2
  cases e2
  cases e3
  obtain ⟨p1, p2, -, -⟩ := aY_pop hY e1
  have hlt : A.1 3 % 100 < 100 := Nat.mod_lt _ (by decide)
  refine ⟨aOut (aPop A f) (aTop A f), fr_tr fr_pop fr_out, aB_pop hb, p1, Nat.le_refl _, rfl, fun I F hA Post h => c142_w (o := 25) (by decide) (by decide) (by unfold cmb; omega) ⟨fun z => absurd z (by decide), fun z => absurd z (by decide), fun z => absurd z (by decide), fun z => absurd z (by decide), fun z => absurd z (by decide), fun z => absurd z (by decide), fun z => absurd z (by decide), fun z => absurd z (by decide), fun z => absurd z (by decide), fun _ => ⟨_, cw_pop hA hf hb p2 ?_, fun _ _ _ q => q⟩, fun z => absurd z (by decide)⟩, fun J G hB Post h => ms_25 (mw_pop hB hf hb p2 ?_)⟩
  · intro F1 a1 k1
    exact ⟨_, cw_out a1 h3 (fun I2 F2 a2 k2 => h I2 F2 a2 (kF_tr k1 k2)), fun _ _ q => q⟩
  · intro G1 a1 k1
    have e11 : J 11 = nI (A.1 3) := hB.2.2.2.1
    rw [e11, r100 (show A.1 3 < 2 ^ 31 by omega), cl (show A.1 3 % 100 < 2 ^ 31 by omega), nI_1]
    exact ⟨by decide, vp_in_nI hlt (by decide), h _ _ (mB_out a1) (kG_tr k1 ⟨fun i _ _ _ i11 => va_up_ne _ _ i11, fun j hj => va_up_ne _ _ (by omega)⟩)⟩
theorem m187 {C : am} {J : SI} {G1 : SF} {Post : SI → SF → Prop} {p : Nat} (hf : C.1 0 = f + 1) (f50 : f < 50) (hC : mB C J G1) (h5 : J 5 = nI (f + 1)) (h : ∀ G', mB (aGo C f p) J G' → kG J G1 J G' → Post J G') : wp_MM_step_187 Post (nI p) (J 5 - 1) J G1 := by
  unfold wp_MM_step_187
  rw [h5, nI_pred, cl (show f < 2 ^ 31 by omega)]
  exact ⟨vp_in_nI f50 (by decide), h _ (mB_go hC) ⟨fun _ _ _ _ _ => rfl, fun j hj => va_up_ne _ _ (by omega)⟩⟩
theorem st_14 {q : Nat} (hf : A.1 0 = f + 1) (hb : aB A) (hY : aY (A.1 1) x A f) (hq : q < 120) (he : aj_do P m 14 v x = some y) : stp (fun I F Post => wp_Ma_step_142 Post (nI 14) (nI q) I F) (fun J G Post => mst 14 (nI q) J G Post) A f y (fun r => r = q) := by
  have he : some x = some y := he
  cases he
  have f50 : f < 50 := by have := hb.1; omega
  refine ⟨aGo A f q, fr_go, hb, hY, Nat.le_succ _, va_up_self _ _ _, fun I F hA Post h => c142_j (o := 14) (by decide) (by decide) ⟨fun _ => ⟨_, cw_go hA hf f50 (fun F1 a1 k1 => h I F1 a1 k1), fun _ _ q => q⟩, fun z => absurd rfl z⟩, fun J G hB Post h => ms_14 ⟨fun r I1 F1 => r = 1 ∧ I1 = J ∧ F1 = G, ⟨fun z => absurd rfl z, fun _ => ⟨rfl, rfl, rfl⟩⟩, fun r I1 F1 w => ?_⟩⟩
  obtain ⟨rfl, rfl, rfl⟩ := w
  exact ⟨fun z => absurd z (by decide), fun _ => m187 hf f50 hB (by rw [hB.1, hf]) (fun G1 a1 k1 => h I1 G1 a1 k1)⟩
/-- a jump or none, behind the values -/
theorem st_j {cw : SI → SF → (Int32 → SI → SF → Prop) → Prop} {mw : SI → SF → (SI → SF → Prop) → Prop} {q : Nat} {C : am} {b : Int32} {x1 : Int32} (hf : A.1 0 = f + 1) (hb : aB A) (hY : aY (A.1 1) x A f) (hfr : fr A C f) (hbC : aB C) (hYC : aY (C.1 1) y C f) (h3 : C.1 3 ≤ A.1 3 + 1) (hp : C.2.1 1 f = A.2.1 1 f) (hbb : bo b) (hc : ∀ (I : SI) (F : SF), cB A I F → ∀ Post : Int32 → SI → SF → Prop, (∀ F1, cB C I F1 → kF I F I F1 → (b = 0 → Post 1 I F1) ∧ (¬ b = 0 → wp_Fr_go (nI q) I F1 (fun I F => Post 1 I F))) → cw I F Post) (hm : ∀ (J : SI) (G : SF), mB A J G → ∀ Post : Int32 → SI → SF → Prop, (∀ G1, mB C J G1 → kG J G J G1 → Post b J G1) → wp_MM_jumps x1 J G Post) (hm2 : ∀ (J : SI) (G : SF) (Post : SI → SF → Prop), wp_MM_step_154 Post x1 (nI q) J G → mw J G Post) : stp cw mw A f y (fun r => r = A.2.1 1 f ∨ r = q) := by
  have f50 : f < 50 := by have := hb.1; omega
  have hfC : C.1 0 = f + 1 := hfr.1.trans hf
  rcases hbb with rfl | rfl
  · refine ⟨C, hfr, hbC, hYC, h3, Or.inl hp, fun I F hA Post h => hc I F hA Post (fun F1 a1 k1 => y0 (h I F1 a1 k1)), fun J G hB Post h => hm2 J G Post ⟨_, hm J G hB _ ?_, fun _ _ _ q => q⟩⟩
    intro G1 a1 k1
    have h5 : J 5 = nI (f + 1) := by rw [hB.1, hf]
    have e18 : G1 18 f = nI (C.2.1 1 f) := (a1.2.2.2.2.1 f (by omega)).2.1
    refine y0 ⟨?_, ?_⟩
    · rw [h5, nI_pred]
      exact vp_in_nI f50 (by decide)
    · have e : (J 5 - 1).toNatClampNeg = f := by rw [h5, nI_pred, cl (by omega)]
      rw [e, e18]
      refine m187 hfC f50 a1 h5 (fun G2 a2 k2 => h J G2 ?_ (kG_tr k1 k2))
      rw [aGo_same] at a2
      exact a2
  · refine ⟨aGo C f q, fr_tr hfr fr_go, hbC, hYC, h3, Or.inr (va_up_self _ _ _), fun I F hA Post h => hc I F hA Post (fun F1 a1 k1 => y1 (cw_go a1 hfC f50 (fun F2 a2 k2 => h I F2 a2 (kF_tr k1 k2)))), fun J G hB Post h => hm2 J G Post ⟨_, hm J G hB _ ?_, fun _ _ _ q => q⟩⟩
    intro G1 a1 k1
    have h5 : J 5 = nI (f + 1) := by rw [hB.1, hf]
    exact y1 (m187 hfC f50 a1 h5 (fun G2 a2 k2 => h J G2 a2 (kG_tr k1 k2)))
theorem st_15 {q : Nat} (hf : A.1 0 = f + 1) (hb : aB A) (hY : aY (A.1 1) x A f) (hq : q < 120) (he : aj_do P m 15 v x = some y) : stp (fun I F Post => wp_Ma_step_142 Post (nI 15) (nI q) I F) (fun J G Post => mst 15 (nI q) J G Post) A f y (fun r => r = A.2.1 1 f ∨ r = q) := by
  have he : ((aj_pop 1 x).bind some).bind (aj_put 0) = some y := he
  obtain ⟨z2, e2, e3⟩ := bind_s he
  obtain ⟨z1, e1, e2⟩ := bind_s e2
  cases e2
  cases e3
  obtain ⟨p1, p2, -, -⟩ := aY_pop hY e1
  refine st_j (C := aPop A f) (b := bi (aTop A f = 0)) (x1 := 15) hf hb hY fr_pop (aB_pop hb) p1 (Nat.le_succ _) rfl bi_bo (fun I F hA Post h => c142_j (o := 15) (by decide) (by decide) ⟨fun z => absurd z (by decide), fun _ => ⟨_, cw_pop hA hf hb p2 ?_, fun _ _ _ q => q⟩⟩) (fun J G hB Post h => ⟨fun _ => ⟨_, mw_pop hB hf hb p2 (fun G1 a1 k1 => ⟨fun _ => ⟨fun z => absurd rfl z, fun _ => ?_⟩, fun z => absurd rfl z⟩), fun _ _ _ q => q⟩, fun z => absurd z (by decide)⟩) (fun J G Post h => ms_15 h)
  · intro F1 a1 k1
    have hh := h F1 a1 k1
    by_cases w : aTop A f = 0
    · rw [bi_y w] at hh
      exact ⟨fun r I1 F2 => r = 1 ∧ I1 = I ∧ F2 = F1, ⟨fun _ => ⟨fun z => absurd w z, fun _ => ⟨rfl, rfl, rfl⟩⟩, fun z => absurd z (by decide), fun z => absurd z (by decide), fun z => absurd z (by decide)⟩, fun r I1 F2 u => by obtain ⟨rfl, rfl, rfl⟩ := u; exact y1 ⟨_, hh.2 (by decide), fun _ _ q => q⟩⟩
    · rw [bi_n w] at hh
      exact ⟨fun r I1 F2 => r = 0 ∧ I1 = I ∧ F2 = F1, ⟨fun _ => ⟨fun _ => ⟨rfl, rfl, rfl⟩, fun z => absurd z w⟩, fun z => absurd z (by decide), fun z => absurd z (by decide), fun z => absurd z (by decide)⟩, fun r I1 F2 u => by obtain ⟨rfl, rfl, rfl⟩ := u; exact y0 (hh.1 rfl)⟩
  · have hh := h G1 a1 k1
    by_cases w : aTop A f = 0
    · rw [bi_y w] at hh
      exact ⟨fun z => absurd w z, fun _ => hh⟩
    · rw [bi_n w] at hh
      exact ⟨fun _ => hh, fun z => absurd z w⟩
theorem st_19 {q : Nat} (hf : A.1 0 = f + 1) (hb : aB A) (hY : aY (A.1 1) x A f) (hq : q < 120) (he : aj_do P m 19 v x = some y) : stp (fun I F Post => wp_Ma_step_142 Post (nI 19) (nI q) I F) (fun J G Post => mst 19 (nI q) J G Post) A f y (fun r => r = A.2.1 1 f ∨ r = q) := by
  have he : ((aj_pop 2 x).bind some).bind (aj_put 0) = some y := he
  obtain ⟨z2, e2, e3⟩ := bind_s he
  obtain ⟨z1, e1, e2⟩ := bind_s e2
  cases e2
  cases e3
  obtain ⟨p1, p2, -, -⟩ := aY_pop hY e1
  refine st_j (C := aPop A f) (b := bi (aTop A f = -1)) (x1 := 19) hf hb hY fr_pop (aB_pop hb) p1 (Nat.le_succ _) rfl bi_bo (fun I F hA Post h => c142_j (o := 19) (by decide) (by decide) ⟨fun z => absurd z (by decide), fun _ => ⟨_, cw_pop hA hf hb p2 ?_, fun _ _ _ q => q⟩⟩) (fun J G hB Post h => ⟨fun _ => ⟨_, mw_pop hB hf hb p2 (fun G1 a1 k1 => ⟨fun z => absurd z (by decide), fun _ => ⟨fun z => absurd rfl z, fun _ => ⟨fun _ => ?_, fun z => absurd z (by decide)⟩⟩⟩), fun _ _ _ q => q⟩, fun z => absurd z (by decide)⟩) (fun J G Post h => ms_19 h)
  · intro F1 a1 k1
    have hh := h F1 a1 k1
    by_cases w : aTop A f = -1
    · rw [bi_y w] at hh
      exact ⟨fun r I1 F2 => r = 1 ∧ I1 = I ∧ F2 = F1, ⟨fun z => absurd z (by decide), fun z => absurd z (by decide), fun _ => ⟨fun z => absurd w z, fun _ => ⟨rfl, rfl, rfl⟩⟩, fun z => absurd z (by decide)⟩, fun r I1 F2 u => by obtain ⟨rfl, rfl, rfl⟩ := u; exact y1 ⟨_, hh.2 (by decide), fun _ _ q => q⟩⟩
    · rw [bi_n w] at hh
      exact ⟨fun r I1 F2 => r = 0 ∧ I1 = I ∧ F2 = F1, ⟨fun z => absurd z (by decide), fun z => absurd z (by decide), fun _ => ⟨fun _ => ⟨rfl, rfl, rfl⟩, fun z => absurd z w⟩, fun z => absurd z (by decide)⟩, fun r I1 F2 u => by obtain ⟨rfl, rfl, rfl⟩ := u; exact y0 (hh.1 rfl)⟩
  · have hh := h G1 a1 k1
    by_cases w : aTop A f = -1
    · rw [bi_y w] at hh
      exact ⟨fun z => absurd w z, fun _ => hh⟩
    · rw [bi_n w] at hh
      exact ⟨fun _ => hh, fun z => absurd z w⟩
theorem st_16 {q : Nat} (hf : A.1 0 = f + 1) (hb : aB A) (hY : aY (A.1 1) x A f) (hq : q < 120) (he : aj_do P m 16 v x = some y) : stp (fun I F Post => wp_Ma_step_142 Post (nI 16) (nI q) I F) (fun J G Post => mst 16 (nI q) J G Post) A f y (fun r => r = A.2.1 1 f ∨ r = q) := by
  have he : ((aj_pop 1 x).bind (aj_pops [1])).bind (aj_put 0) = some y := he
  obtain ⟨z2, e2, e3⟩ := bind_s he
  obtain ⟨z1, e1, e2⟩ := bind_s e2
  have e2 : (aj_pop 1 z1).bind some = some z2 := e2
  obtain ⟨z3, e2, e4⟩ := bind_s e2
  cases e4
  cases e3
  obtain ⟨p1, p2, -, -⟩ := aY_pop hY e1
  obtain ⟨r1, r2, -, -⟩ := aY_pop p1 e2
  have hb1 := aB_pop (f := f) hb
  refine st_j (C := aPop (aPop A f) f) (b := bi (aTop (aPop A f) f < aTop A f)) (x1 := 16) hf hb hY (fr_tr fr_pop fr_pop) (aB_pop hb1) r1 (Nat.le_succ _) rfl bi_bo (fun I F hA Post h => c142_j (o := 16) (by decide) (by decide) ⟨fun z => absurd z (by decide), fun _ => ⟨_, cw_pop hA hf hb p2 ?_, fun _ _ _ q => q⟩⟩) (fun J G hB Post h => ⟨fun _ => ⟨_, mw_pop hB hf hb p2 (fun G1 a1 k1 => ⟨fun z => absurd z (by decide), fun _ => ⟨fun _ => ⟨_, mw_pop (f := f) a1 hf hb1 r2 (fun G2 a2 k2 => ⟨fun z => absurd rfl z, fun _ => ?_⟩), fun _ _ _ q => q⟩, fun z => absurd z (by decide)⟩⟩), fun _ _ _ q => q⟩, fun z => absurd z (by decide)⟩) (fun J G Post h => ms_16 h)
  · intro F1 a1 k1
    by_cases w : aTop (aPop A f) f < aTop A f
    · refine ⟨fun r I1 F2 => r = 1 ∧ I1 = I ∧ cB (aPop (aPop A f) f) I F2 ∧ kF I F I F2, ⟨fun z => absurd z (by decide), fun _ => ⟨_, cw_pop (f := f) a1 hf hb1 r2 (fun F2 a2 k2 => ⟨fun z => absurd z (Int32.not_le.mpr w), fun _ => ⟨rfl, rfl, a2, kF_tr k1 k2⟩⟩), fun _ _ _ q => q⟩, fun z => absurd z (by decide), fun z => absurd z (by decide)⟩, fun r I1 F2 u => ?_⟩
      obtain ⟨rfl, rfl, u3, u4⟩ := u
      have hh := h F2 u3 u4
      rw [bi_y w] at hh
      exact y1 ⟨_, hh.2 (by decide), fun _ _ q => q⟩
    · refine ⟨fun r I1 F2 => r = 0 ∧ I1 = I ∧ cB (aPop (aPop A f) f) I F2 ∧ kF I F I F2, ⟨fun z => absurd z (by decide), fun _ => ⟨_, cw_pop (f := f) a1 hf hb1 r2 (fun F2 a2 k2 => ⟨fun _ => ⟨rfl, rfl, a2, kF_tr k1 k2⟩, fun z => absurd (Int32.not_le.mp z) w⟩), fun _ _ _ q => q⟩, fun z => absurd z (by decide), fun z => absurd z (by decide)⟩, fun r I1 F2 u => ?_⟩
      obtain ⟨rfl, rfl, u3, u4⟩ := u
      have hh := h F2 u3 u4
      rw [bi_n w] at hh
      exact y0 (hh.1 rfl)
  · have hh := h G2 a2 (kG_tr k1 k2)
    by_cases w : aTop (aPop A f) f < aTop A f
    · rw [bi_y w] at hh
      exact ⟨fun z => absurd z (Int32.not_le.mpr w), fun _ => hh⟩
    · rw [bi_n w] at hh
      exact ⟨fun _ => hh, fun z => absurd (Int32.not_le.mp z) w⟩
theorem st_17 {q : Nat} (hf : A.1 0 = f + 1) (hb : aB A) (hY : aY (A.1 1) x A f) (hq : q < 120) (he : aj_do P m 17 v x = some y) : stp (fun I F Post => wp_Ma_step_142 Post (nI 17) (nI q) I F) (fun J G Post => mst 17 (nI q) J G Post) A f y (fun r => r = A.2.1 1 f ∨ r = q) := by
  have he : ((aj_pop 1 x).bind (aj_pops [1])).bind (aj_put 0) = some y := he
  obtain ⟨z2, e2, e3⟩ := bind_s he
  obtain ⟨z1, e1, e2⟩ := bind_s e2
  have e2 : (aj_pop 1 z1).bind some = some z2 := e2
  obtain ⟨z3, e2, e4⟩ := bind_s e2
  cases e4
  cases e3
  obtain ⟨p1, p2, -, -⟩ := aY_pop hY e1
  obtain ⟨r1, r2, -, -⟩ := aY_pop p1 e2
  have hb1 := aB_pop (f := f) hb
  refine st_j (C := aPop (aPop A f) f) (b := bi (aTop (aPop A f) f = aTop A f)) (x1 := 17) hf hb hY (fr_tr fr_pop fr_pop) (aB_pop hb1) r1 (Nat.le_succ _) rfl bi_bo (fun I F hA Post h => c142_j (o := 17) (by decide) (by decide) ⟨fun z => absurd z (by decide), fun _ => ⟨_, cw_pop hA hf hb p2 ?_, fun _ _ _ q => q⟩⟩) (fun J G hB Post h => ⟨fun _ => ⟨_, mw_pop hB hf hb p2 (fun G1 a1 k1 => ⟨fun z => absurd z (by decide), fun _ => ⟨fun _ => ⟨_, mw_pop (f := f) a1 hf hb1 r2 (fun G2 a2 k2 => ⟨fun _ => ?_, fun z => absurd z (by decide)⟩), fun _ _ _ q => q⟩, fun z => absurd z (by decide)⟩⟩), fun _ _ _ q => q⟩, fun z => absurd z (by decide)⟩) (fun J G Post h => ms_17 h)
  · intro F1 a1 k1
    by_cases w : aTop (aPop A f) f = aTop A f
    · refine ⟨fun r I1 F2 => r = 1 ∧ I1 = I ∧ cB (aPop (aPop A f) f) I F2 ∧ kF I F I F2, ⟨fun z => absurd z (by decide), fun z => absurd z (by decide), fun z => absurd z (by decide), fun _ => ⟨_, cw_pop (f := f) a1 hf hb1 r2 (fun F2 a2 k2 => ⟨fun z => absurd w z, fun _ => ⟨rfl, rfl, a2, kF_tr k1 k2⟩⟩), fun _ _ _ q => q⟩⟩, fun r I1 F2 u => ?_⟩
      obtain ⟨rfl, rfl, u3, u4⟩ := u
      have hh := h F2 u3 u4
      rw [bi_y w] at hh
      exact y1 ⟨_, hh.2 (by decide), fun _ _ q => q⟩
    · refine ⟨fun r I1 F2 => r = 0 ∧ I1 = I ∧ cB (aPop (aPop A f) f) I F2 ∧ kF I F I F2, ⟨fun z => absurd z (by decide), fun z => absurd z (by decide), fun z => absurd z (by decide), fun _ => ⟨_, cw_pop (f := f) a1 hf hb1 r2 (fun F2 a2 k2 => ⟨fun _ => ⟨rfl, rfl, a2, kF_tr k1 k2⟩, fun z => absurd z w⟩), fun _ _ _ q => q⟩⟩, fun r I1 F2 u => ?_⟩
      obtain ⟨rfl, rfl, u3, u4⟩ := u
      have hh := h F2 u3 u4
      rw [bi_n w] at hh
      exact y0 (hh.1 rfl)
  · have hh := h G2 a2 (kG_tr k1 k2)
    by_cases w : aTop (aPop A f) f = aTop A f
    · rw [bi_y w] at hh
      exact ⟨fun z => absurd w z, fun _ => hh⟩
    · rw [bi_n w] at hh
      exact ⟨fun _ => hh, fun z => absurd z w⟩
end ST
