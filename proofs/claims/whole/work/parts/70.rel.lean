/-! the pure side: how the class's state and the reference's stand to each other -/
/-- the class's methods are those of P -/
def cT (P : aj_P) (I : SI) (F : SF) : Prop := ∀ k, k < 8 → I (20 + 10 * k) = nI (P.1 k 0) ∧ I (21 + 10 * k) = nI (P.1 k 1) ∧ I (22 + 10 * k) = nI (P.1 k 2) ∧ I (23 + 10 * k) = nI (P.1 k 3) ∧ I (24 + 10 * k) = nI (P.1 k 4) ∧ I (25 + 10 * k) = nI (P.1 k 5) ∧ I (26 + 10 * k) = nI (P.1 k 6) ∧ ∀ p, p < 120 → F (24 + 3 * k) p = nI (P.2.1 k p) ∧ F (25 + 3 * k) p = P.2.2 k p
/-- the reference's are -/
def mT (P : aj_P) (G : SF) : Prop := ∀ k, k < 8 → G 1 k = nI (P.1 k 0) ∧ G 2 k = nI (P.1 k 1) ∧ G 3 k = nI (P.1 k 2) ∧ G 4 k = nI (P.1 k 3) ∧ G 5 k = nI (P.1 k 4) ∧ G 6 k = nI (P.1 k 5) ∧ (P.1 k 0 = 1 → G 7 k = nI (P.1 k 6)) ∧ ∀ p, p < 120 → G 8 (120 * k + p) = nI (P.2.1 k p) ∧ G 9 (120 * k + p) = P.2.2 k p
/-- what holds of every method -/
def wfP (P : aj_P) : Prop := ∀ k, k < 8 → P.1 k 0 ≤ 1 ∧ P.1 k 1 ≤ 4 ∧ P.1 k 2 < 2 ^ P.1 k 1 ∧ P.1 k 3 ≤ 2 ∧ P.1 k 1 ≤ P.1 k 4 ∧ P.1 k 4 ≤ 10 ∧ P.1 k 5 ≤ 15 ∧ P.1 k 6 ≤ 120 ∧ ∀ p, p < 120 → P.2.1 k p ≤ 25
/-- the state of a run: numbers (0 frames, 1 arrays, 2 cells, 3 put out, 4 trouble, 5 steps), rows of numbers (0 methods, 1 places, 2 heights, 3 begins, 4 lengths), values (0 stacks, 1 locals, 2 cells, 3 put out, 4 the answer) -/
abbrev am : Type := (Nat → Nat) × (Nat → Nat → Nat) × (Nat → Nat → Nat → Int32)
def cR (A : am) (I : SI) (F : SF) : Prop := I 9 = nI (A.1 0) ∧ I 10 = nI (A.1 1) ∧ I 11 = nI (A.1 2) ∧ I 12 = nI (A.1 3) ∧ I 2 = (if A.1 4 = 0 then (if A.1 0 = 0 then 1 else 0) else nI (A.1 4)) ∧ I 3 = nI (A.1 5) ∧ I 4 = A.2.2 4 0 0
  ∧ (∀ i, i < A.1 0 → F 14 i = nI (A.2.1 0 i) ∧ F 15 i = nI (A.2.1 1 i) ∧ F 16 i = nI (A.2.1 2 i) ∧ (∀ j, j < 10 → F 17 (10 * i + j) = A.2.2 1 i j) ∧ ∀ j, j < A.2.1 2 i → F 18 (15 * i + j) = A.2.2 0 i j)
  ∧ (∀ i, i < A.1 1 → F 19 i = nI (A.2.1 3 i) ∧ F 20 i = nI (A.2.1 4 i)) ∧ (∀ q, q < A.1 2 → F 21 q = A.2.2 2 0 q) ∧ ∀ q, q < 100 → q < A.1 3 → F 22 q = A.2.2 3 0 q
def mR (A : am) (J : SI) (G : SF) : Prop := J 5 = nI (A.1 0) ∧ J 9 = nI (A.1 1) ∧ J 10 = nI (A.1 2) ∧ J 11 = nI (A.1 3) ∧ J 6 = nI (A.1 4) ∧ J 7 = nI (A.1 5) ∧ J 8 = A.2.2 4 0 0
  ∧ (∀ i, i < A.1 0 → G 17 i = nI (A.2.1 0 i) ∧ G 18 i = nI (A.2.1 1 i) ∧ G 19 i = nI (A.2.1 2 i) ∧ (∀ j, j < 10 → G 21 (10 * i + j) = A.2.2 1 i j) ∧ ∀ j, j < A.2.1 2 i → G 20 (16 * i + j) = A.2.2 0 i j)
  ∧ (∀ i, i < A.1 1 → G 22 i = nI (A.2.1 3 i) ∧ G 23 i = nI (A.2.1 4 i)) ∧ (∀ q, q < A.1 2 → G 24 q = A.2.2 2 0 q) ∧ ∀ q, q < 100 → q < A.1 3 → G 25 q = A.2.2 3 0 q
/-- a value of a type: an array's number is no array's, or one of those there are -/
def aV (made t : Nat) (v : Int32) : Prop := t = 2 → v = -1 ∨ vp_in v made
/-- what holds of the rows of a run -/
def aH (A : am) : Prop := A.1 1 ≤ 200 ∧ A.1 2 ≤ 2000 ∧ ∀ i, i < A.1 1 → A.2.1 3 i + A.2.1 4 i ≤ A.1 2
/-- good methods, and with each all that its ways come to call -/
def aG (P : aj_P) (g : Nat → Bool) : Prop := ∀ k, g k = true → k < 8 ∧ P.1 k 0 = 1 ∧ ∃ K, aj_least P k K ∧ ∀ p x, K p = some x → P.2.1 k p = 23 → g (P.2.2 k p).toNatClampNeg = true
/-- a frame: what is known ahead of its place is so; if t isn't 0, a value of the type t is still to come -/
def aF (P : aj_P) (A : am) (i : Nat) (t : Nat) : Prop := ∃ K x, aj_least P (A.2.1 0 i) K ∧ K (A.2.1 1 i) = some x ∧ (if t = 0 then x.1 = A.2.1 2 i else x.1 = A.2.1 2 i + 1 ∧ x.2.1 (A.2.1 2 i) = t) ∧ (∀ j, j < A.2.1 2 i → aV (A.1 1) (x.2.1 j) (A.2.2 0 i j)) ∧ ∀ j, j < 10 → aV (A.1 1) (x.2.2 j) (A.2.2 1 i j)
/-- all the frames; each but the uppermost waits for what the one above returns -/
def aS (P : aj_P) (A : am) : Prop := A.1 0 ≤ 50 ∧ aH A ∧ ∃ g, aG P g ∧ ∀ i, i < A.1 0 → g (A.2.1 0 i) = true ∧ aF P A i (if i + 1 < A.1 0 then P.1 (A.2.1 0 (i + 1)) 3 else 0)
def rR (n : Nat) (P : aj_P) (I : SI) (F : SF) (J : SI) (G : SF) : Prop := ∃ A, cR A I F ∧ mR A J G ∧ aS P A ∧ A.1 5 ≤ 2000 * n ∧ A.1 3 ≤ A.1 5 ∧ A.1 4 ≤ 7
/-- the relation that every call keeps -/
def Rel (n : Nat) (I : SI) (F : SF) (J : SI) (G : SF) : Prop := ∃ P, wfP P ∧ cT P I F ∧ mT P G ∧ bo (I 1) ∧ J 4 = I 1 ∧ (I 1 = 1 → rR n P I F J G)
theorem rR_n {n : Nat} {P : aj_P} {I : SI} {F : SF} {J : SI} {G : SF} (h : rR n P I F J G) : rR (n + 1) P I F J G := by
  obtain ⟨A, h1, h2, h3, h4, h5⟩ := h
  exact ⟨A, h1, h2, h3, by omega, h5⟩
theorem Rel_n {n : Nat} {I : SI} {F : SF} {J : SI} {G : SF} (h : Rel n I F J G) : Rel (n + 1) I F J G := by
  obtain ⟨P, h1, h2, h3, h4, h5, h6⟩ := h
  exact ⟨P, h1, h2, h3, h4, h5, fun q => rR_n (h6 q)⟩
theorem Rel_0 : Rel 0 (fun _ => 0) (fun _ _ => 0) (fun _ => 0) (fun _ _ => 0) := by
  refine ⟨(fun _ _ => 0, fun _ _ => 0, fun _ _ => 0), ?_, ?_, ?_, Or.inl rfl, rfl, fun h => absurd h (by decide)⟩
  · intro k _
    exact ⟨by simp, by simp, by simp, by simp, by simp, by simp, by simp, by simp, fun _ _ => by simp⟩
  · intro k _
    exact ⟨rfl, rfl, rfl, rfl, rfl, rfl, rfl, fun p _ => ⟨rfl, rfl⟩⟩
  · intro k _
    exact ⟨rfl, rfl, rfl, rfl, rfl, rfl, fun _ => rfl, fun p _ => ⟨rfl, rfl⟩⟩
/-- what the reference throws isn't kept -/
theorem Rel_t {n : Nat} {I : SI} {F : SF} {J : SI} {G : SF} (e : Int32) (h : Rel n I F J G) : Rel (n + 1) I F (va_up J 0 e) G := by
  obtain ⟨P, h1, h2, h3, h4, h5, h6⟩ := h
  refine ⟨P, h1, h2, h3, h4, h5, fun q => ?_⟩
  obtain ⟨A, g1, g2, g3, g4, g5⟩ := h6 q
  exact ⟨A, g1, g2, g3, by omega, g5⟩
/-! calls: one value of the class, one of the reference -/
theorem mkI {wL : (Int32 → SI → SF → (Nat → Int64) → Prop) → Prop} {wM : (Int32 → SI → SF → Prop) → Prop} {R : SI → SF → SI → SF → Prop} (e r : Int32) (CR MR : SI → SF → Prop) (h1 : wL (fun r5 I F g => r5 = e ∧ (e = 0 → g (0 : Int32).toNatClampNeg = r.toInt64) ∧ CR I F)) (h2 : wM (fun b6 J G => J 0 = e ∧ (e = 0 → b6 = r) ∧ MR J G)) (h3 : ∀ I F J G, CR I F → MR J G → J 0 = e → R I F J G) :
    ∃ P, wL P ∧ ∀ r5 I1 F1 g1, P r5 I1 F1 g1 → ∃ PM, wM PM ∧ ∀ b6 J1 G1, PM b6 J1 G1 → ∃ PT : Int32 → SI → SF → Prop, wp_MM_thrown J1 G1 PT ∧ ∀ t5 J2 G2, PT t5 J2 G2 → t5 = r5 ∧ (r5 = 0 → g1 (0 : Int32).toNatClampNeg = b6.toInt64) ∧ R I1 F1 J2 G2 := by
  refine ⟨_, h1, fun r5 I1 F1 g1 q => ⟨_, h2, fun b6 J1 G1 w => ⟨fun t J2 G2 => t = J1 0 ∧ J2 = J1 ∧ G2 = G1, ⟨rfl, rfl, rfl⟩, fun t5 J2 G2 z => ?_⟩⟩⟩
  obtain ⟨q1, q2, q3⟩ := q
  obtain ⟨w1, w2, w3⟩ := w
  obtain ⟨z1, rfl, rfl⟩ := z
  subst q1
  exact ⟨z1.trans w1, fun h => by rw [w2 h]; exact q2 h, h3 _ _ _ _ q3 w3 w1⟩
theorem mkZ {wL : (Int32 → SI → SF → (Nat → Int64) → Prop) → Prop} {wM : (Int32 → SI → SF → Prop) → Prop} {R : SI → SF → SI → SF → Prop} (e r : Int32) (CR MR : SI → SF → Prop) (h1 : wL (fun r5 I F g => r5 = e ∧ (e = 0 → (r = 0 → g (0 : Int32).toNatClampNeg = 0) ∧ (¬ r = 0 → g (0 : Int32).toNatClampNeg = 1)) ∧ CR I F)) (h2 : wM (fun b6 J G => J 0 = e ∧ (e = 0 → b6 = r) ∧ MR J G)) (h3 : ∀ I F J G, CR I F → MR J G → J 0 = e → R I F J G) :
    ∃ P, wL P ∧ ∀ r5 I1 F1 g1, P r5 I1 F1 g1 → ∃ PM, wM PM ∧ ∀ b6 J1 G1, PM b6 J1 G1 → ∃ PT : Int32 → SI → SF → Prop, wp_MM_thrown J1 G1 PT ∧ ∀ t5 J2 G2, PT t5 J2 G2 → t5 = r5 ∧ (r5 = 0 → ((b6 = 0 → g1 (0 : Int32).toNatClampNeg = 0) ∧ (¬ b6 = 0 → g1 (0 : Int32).toNatClampNeg = 1))) ∧ R I1 F1 J2 G2 := by
  refine ⟨_, h1, fun r5 I1 F1 g1 q => ⟨_, h2, fun b6 J1 G1 w => ⟨fun t J2 G2 => t = J1 0 ∧ J2 = J1 ∧ G2 = G1, ⟨rfl, rfl, rfl⟩, fun t5 J2 G2 z => ?_⟩⟩⟩
  obtain ⟨q1, q2, q3⟩ := q
  obtain ⟨w1, w2, w3⟩ := w
  obtain ⟨z1, rfl, rfl⟩ := z
  subst q1
  exact ⟨z1.trans w1, fun h => by rw [w2 h]; exact q2 h, h3 _ _ _ _ q3 w3 w1⟩
theorem updL_0 (g : Nat → Int64) (x : Int64) : vp_updL g (0 : Int32).toNatClampNeg x (0 : Int32).toNatClampNeg = x := by simp [vp_updL]
/-! calls collapse -/
theorem ex3 {r : Int32} {I : SI} {F : SF} {K : Int32 → SI → SF → Prop} : (∃ P : Int32 → SI → SF → Prop, P r I F ∧ ∀ r I F, P r I F → K r I F) ↔ K r I F := ⟨fun ⟨_, h, g⟩ => g _ _ _ h, fun h => ⟨K, h, fun _ _ _ q => q⟩⟩
theorem ex2 {I : SI} {F : SF} {K : SI → SF → Prop} : (∃ P : SI → SF → Prop, P I F ∧ ∀ I F, P I F → K I F) ↔ K I F := ⟨fun ⟨_, h, g⟩ => g _ _ h, fun h => ⟨K, h, fun _ _ q => q⟩⟩
/-- 1 or 0 -/
noncomputable def bi (p : Prop) : Int32 := by
  classical
  exact if p then 1 else 0
theorem bi_y {p : Prop} (h : p) : bi p = 1 := by unfold bi; rw [if_pos h]
theorem bi_n {p : Prop} (h : ¬ p) : bi p = 0 := by unfold bi; rw [if_neg h]
theorem bi_0 {p : Prop} : bi p = 0 ↔ ¬ p := by
  by_cases h : p
  · rw [bi_y h]; exact ⟨fun q => absurd q (by decide), fun q => absurd h q⟩
  · rw [bi_n h]; exact ⟨fun _ => h, fun _ => rfl⟩
theorem bi_bo {p : Prop} : bo (bi p) := by
  by_cases h : p
  · rw [bi_y h]; exact bo_1
  · rw [bi_n h]; exact bo_0
theorem ev_below {a b : Int32} {I : SI} {F : SF} {Post : Int32 → SI → SF → Prop} : wp_CJ_isBelow a b I F Post ↔ Post (bi (¬ a < 0 ∧ a < b)) I F := by
  unfold wp_CJ_isBelow
  by_cases h : a < 0
  · rw [bi_n (fun q => q.1 h)]
    exact ⟨fun q => q.1 h, fun q => ⟨fun _ => q, fun z => absurd h z⟩⟩
  · by_cases h2 : b ≤ a
    · rw [bi_n (fun q => Int32.not_lt.mpr h2 q.2)]
      exact ⟨fun q => (q.2 h).1 h2, fun q => ⟨fun z => absurd z h, fun _ => ⟨fun _ => q, fun z => absurd h2 z⟩⟩⟩
    · rw [bi_y ⟨h, Int32.not_le.mp h2⟩]
      exact ⟨fun q => (q.2 h).2 h2, fun q => ⟨fun z => absurd z h, fun _ => ⟨fun z => absurd z h2, fun _ => q⟩⟩⟩
theorem ev_within {a b c : Int32} {I : SI} {F : SF} {Post : Int32 → SI → SF → Prop} : wp_MM_within a b c I F Post ↔ Post (bi (b ≤ a ∧ a ≤ c)) I F := by
  unfold wp_MM_within
  by_cases h : a < b
  · rw [bi_n (fun q => Int32.not_le.mpr h q.1)]
    exact ⟨fun q => q.1 h, fun q => ⟨fun _ => q, fun z => absurd h z⟩⟩
  · by_cases h2 : c < a
    · rw [bi_n (fun q => Int32.not_le.mpr h2 q.2)]
      exact ⟨fun q => (q.2 h).1 h2, fun q => ⟨fun z => absurd z h, fun _ => ⟨fun _ => q, fun z => absurd h2 z⟩⟩⟩
    · rw [bi_y ⟨Int32.not_lt.mp h, Int32.not_lt.mp h2⟩]
      exact ⟨fun q => (q.2 h).2 h2, fun q => ⟨fun z => absurd z h, fun _ => ⟨fun z => absurd z h2, fun _ => q⟩⟩⟩
theorem ev_goes1 {a b c : Int32} {I : SI} {F : SF} {Post : Int32 → SI → SF → Prop} (h : a = 0) : wp_MM_goes a b c I F Post ↔ Post 0 (va_up I 0 1) F := by
  subst h
  simp [wp_MM_goes, wp_MM_goes_26]
theorem ev_goes2 {a b c : Int32} {I : SI} {F : SF} {Post : Int32 → SI → SF → Prop} (h : ¬ a = 0) (h2 : b = 0) : wp_MM_goes a b c I F Post ↔ Post 0 (va_up I 0 2) F := by
  subst h2
  simp [wp_MM_goes, wp_MM_goes_26, h]
theorem ev_goes3 {a b c : Int32} {I : SI} {F : SF} {Post : Int32 → SI → SF → Prop} (h : ¬ a = 0) (h2 : ¬ b = 0) (h3 : c = 0) : wp_MM_goes a b c I F Post ↔ Post 0 (va_up I 0 3) F := by
  subst h3
  simp [wp_MM_goes, wp_MM_goes_26, h, h2]
theorem ev_goes0 {a b c : Int32} {I : SI} {F : SF} {Post : Int32 → SI → SF → Prop} (h : ¬ a = 0) (h2 : ¬ b = 0) (h3 : ¬ c = 0) : wp_MM_goes a b c I F Post ↔ Post 1 (va_up I 0 0) F := by
  simp [wp_MM_goes, wp_MM_goes_26, h, h2, h3]
theorem n_nar0 : vp_nar .boolean 0 = 0 := by decide +kernel
theorem n_nar1 : vp_nar .boolean 1 = 1 := by decide +kernel
