/-! the reference's judge: its row of types -/
def mO (b : Nat) (o : Option aj_S) (J : SI) (G : SF) : Prop := match o with
  | none => J 2 = 1 ∧ ∃ h, h ≤ b ∧ J 3 = nI h
  | some x => J 2 = 0 ∧ J 3 = nI x.1 ∧ x.1 ≤ b ∧ wt x ∧ (∀ k, k < x.1 → G 14 k = nI (x.2.1 k)) ∧ ∀ k, k < 10 → G 15 k = nI (x.2.2 k)
theorem mO_le {a b : Nat} {o : Option aj_S} {J : SI} {G : SF} (h : a ≤ b) (g : mO a o J G) : mO b o J G := by
  cases o with
  | none =>
    obtain ⟨g1, hh, g2, g3⟩ := g
    exact ⟨g1, hh, by omega, g3⟩
  | some x =>
    obtain ⟨g1, g2, g3, g4⟩ := g
    exact ⟨g1, g2, by omega, g4⟩
def kE (J : SI) (G : SF) (J' : SI) (G' : SF) : Prop := (∀ i, i ≠ 2 → i ≠ 3 → J' i = J i) ∧ ∀ j, j ≠ 14 → j ≠ 15 → G' j = G j
theorem kE_rf {J : SI} {G : SF} : kE J G J G := ⟨fun _ _ _ => rfl, fun _ _ _ => rfl⟩
theorem kE_tr {J J1 J2 : SI} {G G1 G2 : SF} (h : kE J G J1 G1) (g : kE J1 G1 J2 G2) : kE J G J2 G2 := ⟨fun i a b => (g.1 i a b).trans (h.1 i a b), fun j a b => (g.2 j a b).trans (h.2 j a b)⟩
theorem kE_2 {J : SI} {G : SF} {v : Int32} : kE J G (va_up J 2 v) G := ⟨fun i a _ => va_up_ne _ _ a, fun _ _ _ => rfl⟩
theorem mT_g {P : aj_P} {G G' : SF} (h : mT P G) (g : ∀ j, j < 10 → G' j = G j) : mT P G' := by
  intro k hk
  rw [g 1 (by decide), g 2 (by decide), g 3 (by decide), g 4 (by decide), g 5 (by decide), g 6 (by decide), g 7 (by decide), g 8 (by decide), g 9 (by decide)]
  exact h k hk
theorem mT_E {P : aj_P} {J J' : SI} {G G' : SF} (h : mT P G) (g : kE J G J' G') : mT P G' := mT_g h (fun j hj => g.2 j (by omega) (by omega))
section ME
variable {P : aj_P} {m b : Nat} {o : Option aj_S} {J : SI} {G : SF}
theorem mt_pop {t : Nat} {Post : Int32 → SI → SF → Prop} (ht : t ≤ 2) (hb : b ≤ 30) (h : mO b o J G) (hP : ∀ r J', kE J G J' G → mO b (o.bind (aj_pop t)) J' G → (∀ x, o = some x → ¬ x.1 = 0 → r = nI (x.2.1 (x.1 - 1))) → Post r J' G) : wp_MM_pop (nI t) J G Post := by
  unfold wp_MM_pop wp_MM_pop_14 wp_MM_pop_53
  cases o with
  | none =>
    obtain ⟨h2, hh, hle, h3⟩ := h
    have fin : Post 0 (va_up J 2 1) G := hP 0 _ kE_2 ⟨rfl, hh, hle, h3⟩ (fun x e => by cases e)
    exact ⟨fun _ => fin, fun _ => ⟨fun z => absurd (h2.symm.trans z) (by decide), fun _ => fin⟩⟩
  | some x =>
    obtain ⟨h2, h3, hle, hwt, h14, h15⟩ := h
    rw [h3, h2]
    by_cases q : x.1 = 0
    · have e : (some x).bind (aj_pop t) = none := aj_pop_n (fun w => w.1 q)
      rw [e] at hP
      have fin : Post 0 (va_up J 2 1) G := hP 0 _ kE_2 ⟨rfl, x.1, hle, h3⟩ (fun x' e w => by cases e; exact absurd q w)
      exact ⟨fun _ => fin, fun z => absurd (by rw [q]; rfl) z⟩
    · have n0 : ¬ nI x.1 = 0 := nI_ne0 (by omega) (by omega)
      have hk : ∀ s0, kE J G (va_up (va_up J 3 (nI (x.1 - 1))) 2 s0) G := fun s0 => ⟨fun i a c => by rw [va_up_ne _ _ a, va_up_ne _ _ c], fun _ _ _ => rfl⟩
      have mk : ∀ s0, bo s0 → mO b ((some x).bind (aj_pop t)) (va_up (va_up J 3 (nI (x.1 - 1))) 2 s0) G → wp_MM_pop_54 Post s0 (va_up J 3 (nI (x.1 - 1))) G := by
        intro s0 hs hm
        refine ⟨hs, vp_in_nI (show x.1 - 1 < 32 by omega) (by decide), ?_⟩
        show Post (G 14 (nI (x.1 - 1)).toNatClampNeg) _ G
        rw [cl (by omega), h14 (x.1 - 1) (by omega)]
        exact hP _ _ (hk s0) hm (fun x' e _ => by cases e; rfl)
      have ok : (t = 0 ∨ x.2.1 (x.1 - 1) = t) → mO b ((some x).bind (aj_pop t)) (va_up (va_up J 3 (nI (x.1 - 1))) 2 0) G := fun w => by
        have e : (some x).bind (aj_pop t) = some (x.1 - 1, x.2) := aj_pop_y q w
        rw [e]
        exact ⟨rfl, rfl, by show x.1 - 1 ≤ b; omega, wt_pop hwt (aj_pop_y q w), fun k hk => h14 k (by have : k < x.1 - 1 := hk; omega), h15⟩
      rw [nI_p1 (by omega)]
      refine ⟨fun z => absurd z n0, fun _ => ⟨fun _ => ⟨fun z => mk 0 bo_0 (ok (Or.inl ((nI_nz (by omega)).mp z))), fun z => ⟨vp_in_nI (show x.1 - 1 < 32 by omega) (by decide), fun w => ?_, fun w => ?_⟩⟩, fun z => absurd rfl z⟩⟩
      · rw [cl (by omega), h14 (x.1 - 1) (by omega)] at w
        have h12 := hwt.1 (x.1 - 1) (by omega)
        exact mk 0 bo_0 (ok (Or.inr ((nI_eq (by omega) (by omega)).mp w)))
      · rw [cl (by omega), h14 (x.1 - 1) (by omega)] at w
        refine mk 1 bo_1 ?_
        have e : (some x).bind (aj_pop t) = none := aj_pop_n (fun v => v.2.elim (fun a => z (by rw [a]; rfl)) (fun a => w (by rw [a])))
        rw [e]
        exact ⟨rfl, x.1 - 1, by omega, rfl⟩
theorem mt_push {t : Nat} {v : Int32} {Post : SI → SF → Prop} (hb : b ≤ 30) (h : mO b o J G) (hv : ∀ x, o = some x → v = nI t ∧ (t = 1 ∨ t = 2)) (hP : ∀ J' G', kE J G J' G' → mO (b + 1) (o.bind (aj_push t)) J' G' → Post J' G') : wp_MM_push v J G Post := by
  unfold wp_MM_push
  obtain ⟨hh, hle, h3⟩ : ∃ hh, hh ≤ b ∧ J 3 = nI hh := by
    cases o with
    | none => exact h.2
    | some x => exact ⟨x.1, h.2.2.1, h.2.1⟩
  rw [h3, cl (show hh < 2 ^ 31 by omega), nI_1]
  refine ⟨vp_in_nI (show hh < 32 by omega) (by decide), hP _ _ ⟨fun i a c => va_up_ne _ _ c, fun j a _ => va_up_ne _ _ a⟩ ?_⟩
  cases o with
  | none => exact ⟨h.1, hh + 1, by omega, rfl⟩
  | some x =>
    obtain ⟨g2, g3, gle, gwt, g14, g15⟩ := h
    have e : hh = x.1 := (nI_eq (by omega) (by omega)).mp (h3.symm.trans g3)
    subst e
    obtain ⟨e1, e2⟩ := hv x rfl
    refine ⟨g2, rfl, by show x.1 + 1 ≤ b + 1; omega, (wt_push e2 gwt rfl).1, fun k hk => ?_, g15⟩
    have hk : k < x.1 + 1 := hk
    show upd (G 14) x.1 v k = nI (va_up x.2.1 x.1 t k)
    by_cases w : k = x.1
    · rw [w, va_up_self, e1]; exact if_pos rfl
    · rw [va_up_ne _ _ w]; exact (if_neg w).trans (g14 k (by omega))
/-- a type is taken, if it is one -/
def tk (t : Nat) (o : Option aj_S) : Option aj_S := if t = 0 then o else o.bind (aj_pop t)
theorem mt_take {a c d : Nat} {Post : SI → SF → Prop} (ha : a ≤ 2) (hc : c ≤ 2) (hd : d ≤ 2) (hb : b ≤ 30) (h : mO b o J G) (hP : ∀ J', kE J G J' G → mO b (tk d (tk c (tk a o))) J' G → Post J' G) : wp_MM_take (nI a) (nI c) (nI d) J G Post := by
  have one : ∀ (t : Nat) (o : Option aj_S) (J : SI) (Q : Int32 → SI → SF → Prop) (Q0 : Prop), t ≤ 2 → mO b o J G → (∀ r J', kE J G J' G → mO b (tk t o) J' G → Q r J' G) → ((mO b (tk t o) J G) → Q0) → ((¬ nI t = 0 → ∃ P2 : Int32 → SI → SF → Prop, wp_MM_pop (nI t) J G P2 ∧ ∀ r2 I2 F2, P2 r2 I2 F2 → Q r2 I2 F2) ∧ (nI t = 0 → Q0)) := by
    intro t o J Q Q0 ht h hQ h0
    refine ⟨fun z => ⟨_, mt_pop ht hb h ?_, fun _ _ _ q => q⟩, fun z => h0 ?_⟩
    · intro r J' k e _
      refine hQ r J' k ?_
      unfold tk
      rw [if_neg (fun w => z (by rw [w]; rfl))]
      exact e
    · unfold tk
      rw [if_pos ((nI_nz (by omega)).mp z)]
      exact h
  have s28 : ∀ (o : Option aj_S) (J1 : SI) (s : Int32), kE J G J1 G → mO b o J1 G → tk d (tk c (tk a o)) = tk d (tk c (tk a o)) → (∀ J', kE J G J' G → mO b (tk d o) J' G → Post J' G) → wp_MM_take_28 Post (nI d) s J1 G := fun o J1 s k1 h1 _ g => one d o J1 (fun _ I F => Post I F) (Post J1 G) hd h1 (fun r J' k e => g J' (kE_tr k1 k) e) (fun e => g J1 k1 e)
  have s13 : ∀ (o : Option aj_S) (J1 : SI) (s : Int32), kE J G J1 G → mO b o J1 G → (∀ J', kE J G J' G → mO b (tk d (tk c o)) J' G → Post J' G) → wp_MM_take_13 Post (nI c) (nI d) s J1 G := fun o J1 s k1 h1 g => one c o J1 (fun r I F => wp_MM_take_28 Post (nI d) r I F) (wp_MM_take_28 Post (nI d) 0 J1 G) hc h1 (fun r J' k e => s28 _ J' r (kE_tr k1 k) e rfl g) (fun e => s28 _ J1 0 k1 e rfl g)
  exact one a o J (fun r I F => wp_MM_take_13 Post (nI c) (nI d) r I F) (wp_MM_take_13 Post (nI c) (nI d) 0 J G) ha h (fun r J' k e => s13 _ J' r k e hP) (fun e => s13 _ J 0 kE_rf e hP)
theorem mt_load {t : Nat} {v : Int32} {x : aj_S} {Post : SI → SF → Prop} (ht : t = 1 ∨ t = 2) (hb : b ≤ 29) (hw : wfP P) (hm : mT P G) (hmm : m < 8) (h : mO b (some x) J G) (hP : ∀ J' G', kE J G J' G' → mO (b + 1) (if v < 0 ∨ P.1 m 4 ≤ v.toNatClampNeg then none else (aj_has v.toNatClampNeg t x).bind (aj_push t)) J' G' → Post J' G') : wp_MM_local (nI m) v (nI t) 1 J G Post := by
  have hl := (hw m hmm).2.2.2.2.2.1
  obtain ⟨h2, h3, hle, hwt, h14, h15⟩ := h
  unfold wp_MM_local wp_MM_local_14 wp_MM_local_45
  rw [cl (show m < 2 ^ 31 by omega), (hm m hmm).2.2.2.2.1, h2]
  have bad : (v < 0 ∨ P.1 m 4 ≤ v.toNatClampNeg) → Post (va_up J 2 1) G := fun q => hP _ _ kE_2 (by rw [if_pos q]; exact ⟨rfl, x.1, by omega, h3⟩)
  refine ⟨fun z => bad (Or.inl z), fun z => ⟨vp_in_nI hmm (by decide), fun w => ?_, fun w => bad (Classical.not_not.mp (fun q => w ((vin_b (by omega)).mp q).2))⟩⟩
  have hv : vp_in v (P.1 m 4) := (vin_b (by omega)).mpr ⟨z, w⟩
  obtain ⟨k, hk, rfl⟩ := vp_in_of hv (by omega)
  have hv' : ¬ (nI k < 0 ∨ P.1 m 4 ≤ k) := in_c hv (by omega)
  simp only [if_neg hv', cl (show k < 2 ^ 31 by omega)] at hP
  rw [cl (show k < 2 ^ 31 by omega), h15 k (by omega)]
  have psh : ∀ (s0 : Int32) (o2 : Option aj_S), bo s0 → mO b o2 (va_up J 2 s0) G → o2.bind (aj_push t) = (aj_has k t x).bind (aj_push t) → wp_MM_local_50 Post (nI t) s0 J G := by
    intro s0 o2 hs hm2 he
    refine ⟨hs, _, mt_push (t := t) (by omega) hm2 (fun _ _ => ⟨rfl, ht⟩) ?_, fun _ _ q => q⟩
    intro J' G' k1 e1
    rw [he] at e1
    exact hP J' G' (kE_tr kE_2 k1) e1
  have h22 := hwt.2 k (by omega)
  refine ⟨fun y => absurd y (by decide), fun _ => ⟨fun y => absurd rfl y, fun _ => ⟨vp_in_nI (show k < 10 by omega) (by decide), fun y => ?_, fun y => ?_⟩⟩⟩
  · have e : x.2.2 k = t := (nI_eq (by omega) (by omega)).mp y
    exact psh 0 (some x) bo_0 ⟨rfl, h3, hle, hwt, h14, h15⟩ (by unfold aj_has; rw [if_pos e])
  · exact psh 1 none bo_1 ⟨rfl, x.1, hle, h3⟩ (by unfold aj_has; rw [if_neg (fun e => y (by rw [e]))])
theorem mt_store {t : Nat} {v : Int32} {x : aj_S} {Post : SI → SF → Prop} (ht : t = 1 ∨ t = 2) (hb : b ≤ 29) (hw : wfP P) (hm : mT P G) (hmm : m < 8) (h : mO b (some x) J G) (hP : ∀ J' G', kE J G J' G' → mO b (if v < 0 ∨ P.1 m 4 ≤ v.toNatClampNeg then none else (aj_pop t x).bind (aj_set v.toNatClampNeg t)) J' G' → Post J' G') : wp_MM_local (nI m) v (nI t) 0 J G Post := by
  have hl := (hw m hmm).2.2.2.2.2.1
  have hx := h
  obtain ⟨h2, h3, hle, hwt, h14, h15⟩ := h
  unfold wp_MM_local wp_MM_local_14
  rw [cl (show m < 2 ^ 31 by omega), (hm m hmm).2.2.2.2.1]
  have bad : (v < 0 ∨ P.1 m 4 ≤ v.toNatClampNeg) → Post (va_up J 2 1) G := fun q => hP _ _ kE_2 (by rw [if_pos q]; exact ⟨rfl, x.1, by omega, h3⟩)
  refine ⟨fun z => bad (Or.inl z), fun z => ⟨vp_in_nI hmm (by decide), fun w => ⟨fun _ => ?_, fun y => absurd rfl y⟩, fun w => bad (Classical.not_not.mp (fun q => w ((vin_b (by omega)).mp q).2))⟩⟩
  have hv : vp_in v (P.1 m 4) := (vin_b (by omega)).mpr ⟨z, w⟩
  obtain ⟨k, hk, rfl⟩ := vp_in_of hv (by omega)
  have hv' : ¬ (nI k < 0 ∨ P.1 m 4 ≤ k) := in_c hv (by omega)
  simp only [if_neg hv', cl (show k < 2 ^ 31 by omega)] at hP
  rw [cl (show k < 2 ^ 31 by omega)]
  refine ⟨_, mt_pop (t := t) (by omega) (by omega) hx ?_, fun _ _ _ q => q⟩
  intro r J' k1 e _
  refine ⟨vp_in_nI (show k < 10 by omega) (by decide), hP _ _ ⟨k1.1, fun j _ c => va_up_ne _ _ c⟩ ?_⟩
  have e : mO b (aj_pop t x) J' G := e
  cases q : aj_pop t x with
  | none => rw [q] at e; exact e
  | some z =>
    rw [q] at e
    obtain ⟨g2, g3, gle, gwt, g14, g15⟩ := e
    refine ⟨g2, g3, gle, (wt_set (by omega) gwt rfl).1, g14, fun j hj => ?_⟩
    show upd (G 15) k (nI t) j = nI (va_up z.2.2 k t j)
    by_cases w2 : j = k
    · rw [w2, va_up_self]; exact if_pos rfl
    · rw [va_up_ne _ _ w2]; exact (if_neg w2).trans (g15 j hj)
theorem bs_bit1 {n j : Nat} {f : Nat → Bool} {v : Int32} (h : bs n f v) (hj : j < 32) : ((v >>> (nI j &&& 31)) &&& 1) = 1 ↔ (j < n ∧ f j = true) := by
  constructor
  · intro e
    by_cases q : j < n ∧ f j = true
    · exact q
    · rw [(bs_bit h hj).mpr q] at e
      exact absurd e (by decide)
  · intro q
    have h0 : ¬ ((v >>> (nI j &&& 31)) &&& 1) = 0 := fun e => (bs_bit h hj).mp e q
    have e : ∀ i, i < 32 → bt ((v >>> (nI j &&& 31)) &&& 1) i = (decide (i = 0) && bt (v >>> (nI j &&& 31)) 0) := by
      intro i hi
      rw [b_and, show (1 : Int32) = nI 1 from rfl, bt_nI _ hi]
      by_cases q : i = 0
      · subst q; simp
      · have : Nat.testBit 1 i = false := Nat.testBit_lt_two_pow (Nat.one_lt_two_pow (by omega))
        rw [this, decide_eq_false q, Bool.and_false, Bool.false_and]
    cases g : bt (v >>> (nI j &&& 31)) 0 with
    | false =>
      refine absurd (b_ext (fun i hi => ?_)) h0
      rw [e i hi, g, Bool.and_false, b_0]
    | true =>
      apply b_ext
      intro i hi
      rw [e i hi, g, Bool.and_true, show (1 : Int32) = nI 1 from rfl, bt_nI _ hi]
      by_cases q : i = 0
      · subst q; rfl
      · rw [decide_eq_false q, Nat.testBit_lt_two_pow (Nat.one_lt_two_pow (by omega))]
theorem mt_call {v : Int32} {x : aj_S} {Post : SI → SF → Prop} (hb : b ≤ 29) (hw : wfP P) (hm : mT P G) (h : mO b (some x) J G) (hP : ∀ J' G', kE J G J' G' → mO (b + 1) (aj_do P m 23 v x) J' G' → Post J' G') : wp_MM_call v J G Post := by
  have ed : aj_do P m 23 v x = if v < 0 ∨ 8 ≤ v.toNatClampNeg then none else if P.1 v.toNatClampNeg 0 = 1 then (aj_pops (aj_args (P.1 v.toNatClampNeg 2) (P.1 v.toNatClampNeg 1)) x).bind (aj_put (P.1 v.toNatClampNeg 3)) else none := rfl
  unfold wp_MM_call
  by_cases q : isM P v
  · obtain ⟨k, hk, rfl, h1⟩ := q
    have hv : ¬ (nI k < 0 ∨ 8 ≤ (nI k).toNatClampNeg) := vp_in_nI hk (by decide)
    rw [ed, if_neg hv, cl (show k < 2 ^ 31 by omega), if_pos h1] at hP
    simp only [mP_y hm hk h1, ex3]
    obtain ⟨w1, w2, w3, w4, -⟩ := hw k hk
    have hv8 := vp_in_nI hk (show 8 < 2 ^ 31 by decide)
    have key : ∀ (n : Nat) (o : Option aj_S) (J1 : SI) (G1 : SF), n ≤ P.1 k 1 → kE J G J1 G1 → mO b o J1 G1 → (∀ J' G', kE J G J' G' → mO (b + 1) ((o.bind (aj_pops (aj_args (P.1 k 2) n))).bind (aj_put (P.1 k 3))) J' G' → Post J' G') → wp_MM_call_23 Post (n + 1) (nI k) (nI n - 1) J1 G1 := by
      intro n
      induction n with
      | zero =>
        intro o J1 G1 _ k1 m1 g
        have e0 : o.bind (aj_pops (aj_args (P.1 k 2) 0)) = o := by cases o <;> rfl
        rw [e0] at g
        unfold wp_MM_call_23
        refine ⟨fun _ => ⟨hv8, ?_⟩, fun z => absurd (by decide) z⟩
        rw [cl (show k < 2 ^ 31 by omega), (mT_E hm k1 k hk).2.2.2.1]
        refine ⟨fun z => ?_, fun z => ⟨hv8, _, mt_push (t := P.1 k 3) (by omega) m1 (fun _ _ => ⟨rfl, ?_⟩) ?_, fun _ _ q => q⟩⟩
        · have e3 : P.1 k 3 = 0 := by
            rcases Nat.eq_zero_or_pos (P.1 k 3) with e | e
            · exact e
            · exact absurd z (nI_nle e (by omega))
          have e4 : o.bind (aj_put (P.1 k 3)) = o := by rw [e3]; cases o <;> rfl
          rw [e4] at g
          exact g J1 G1 k1 (mO_le (by omega) m1)
        · have e3 : ¬ P.1 k 3 = 0 := fun e => z (by rw [e]; decide)
          omega
        · intro J2 G2 k2 e2
          refine g J2 G2 (kE_tr k1 k2) ?_
          have e3 : ¬ P.1 k 3 = 0 := fun e => z (by rw [e]; decide)
          have e4 : o.bind (aj_put (P.1 k 3)) = o.bind (aj_push (P.1 k 3)) := by
            cases o with
            | none => rfl
            | some y =>
              show aj_put (P.1 k 3) y = aj_push (P.1 k 3) y
              unfold aj_put
              rw [if_neg e3]
          rw [e4]
          exact e2
      | succ n ih =>
        intro o J1 G1 hn k1 m1 g
        unfold wp_MM_call_23
        rw [nI_pred]
        refine ⟨fun z => absurd z (nI_pos (by omega)), fun _ => ⟨hv8, ?_⟩⟩
        rw [cl (show k < 2 ^ 31 by omega), (mT_E hm k1 k hk).2.2.1]
        have bb := bs_bit1 (bs_nI w3) (show n < 32 by omega)
        have go : ∀ t, t ≤ 2 → (t = if (P.1 k 2).testBit n = true then 2 else 1) → wp_MM_call_47 (wp_MM_call_23 Post (n + 1)) Post (nI k) (nI n) (nI t) J1 G1 := by
          intro t ht et
          refine ⟨_, mt_pop ht (by omega) m1 ?_, fun _ _ _ q => q⟩
          intro r J2 k2 e2 _ x13 e13
          subst e13
          rw [show nI n + -1 = nI n - 1 from (Int32.sub_eq_add_neg _ _).symm]
          refine ih _ J2 G1 (by omega) (kE_tr k1 k2) e2 (fun J' G' a c => g J' G' a ?_)
          have e5 : o.bind (aj_pops (aj_args (P.1 k 2) (n + 1))) = (o.bind (aj_pop t)).bind (aj_pops (aj_args (P.1 k 2) n)) := by
            cases o with
            | none => rfl
            | some y =>
              show (aj_pop (if (P.1 k 2).testBit n = true then 2 else 1) y).bind _ = _
              rw [← et]; rfl
          rw [e5]
          exact c
        refine ⟨fun z => go 1 (by decide) ?_, fun z => go 2 (by decide) ?_⟩
        · rw [if_neg (fun w => z (bb.mpr ⟨by omega, w⟩))]
        · rw [if_pos (bb.mp z).2]
    refine z1 ⟨hv8, fun x4 e4 => ?_⟩
    rw [cl (show k < 2 ^ 31 by omega), (hm k hk).2.1] at e4
    subst e4
    exact ⟨_, key (P.1 k 1) (some x) J G (Nat.le_refl _) kE_rf h hP⟩
  · simp only [mP_n hw hm q, ex3]
    refine ⟨fun z => absurd trivial z, fun _ => hP _ _ kE_2 ?_⟩
    have e : aj_do P m 23 v x = none := by
      rw [ed]
      by_cases w : v < 0 ∨ 8 ≤ v.toNatClampNeg
      · rw [if_pos w]
      · obtain ⟨k, hk, rfl⟩ := vp_in_of (show vp_in v 8 from w) (by decide)
        rw [if_neg w, cl (show k < 2 ^ 31 by omega), if_neg (fun e => q ⟨k, hk, rfl, e⟩)]
    rw [e]
    exact ⟨rfl, x.1, by have := h.2.2.1; omega, h.2.1⟩
end ME
/-! the reference's effect, order by order -/
theorem me_0 {p1 p3 : Int32} {J : SI} {G : SF} {Post : SI → SF → Prop} (h : ∃ P53 : SI → SF → Prop, wp_MM_push 1 J G P53 ∧ ∀ I53 F53, P53 I53 F53 → (Post I53 F53)) : wp_MM_effect p1 0 p3 J G Post := ⟨fun z => absurd z (by decide), fun _ => h⟩
theorem me_1 {p1 p3 : Int32} {J : SI} {G : SF} {Post : SI → SF → Prop} (h : wp_MM_effect_22 Post p1 (1 : Int32) p3 J G) : wp_MM_effect p1 1 p3 J G Post := ⟨fun _ => ⟨fun _ => h, fun z => absurd z (by decide)⟩, fun z => absurd z (by decide)⟩
theorem me_2 {p1 p3 : Int32} {J : SI} {G : SF} {Post : SI → SF → Prop} (h : wp_MM_effect_52 Post p1 (2 : Int32) p3 J G) : wp_MM_effect p1 2 p3 J G Post := ⟨fun _ => ⟨fun z => absurd z (by decide), fun _ => ⟨fun _ => ⟨fun _ => h, fun z => absurd z (by decide)⟩, fun z => absurd z (by decide)⟩⟩, fun z => absurd z (by decide)⟩
theorem me_3 {p1 p3 : Int32} {J : SI} {G : SF} {Post : SI → SF → Prop} (h : wp_MM_effect_22 Post p1 (3 : Int32) p3 J G) : wp_MM_effect p1 3 p3 J G Post := ⟨fun _ => ⟨fun z => absurd z (by decide), fun _ => ⟨fun z => absurd z (by decide), fun _ => h⟩⟩, fun z => absurd z (by decide)⟩
theorem me_4 {p1 p3 : Int32} {J : SI} {G : SF} {Post : SI → SF → Prop} (h : wp_MM_effect_52 Post p1 (4 : Int32) p3 J G) : wp_MM_effect p1 4 p3 J G Post := ⟨fun _ => ⟨fun z => absurd z (by decide), fun _ => ⟨fun _ => ⟨fun z => absurd z (by decide), fun _ => ⟨fun z => absurd z (by decide), fun _ => h⟩⟩, fun z => absurd z (by decide)⟩⟩, fun z => absurd z (by decide)⟩
theorem me_5 {p1 p3 : Int32} {J : SI} {G : SF} {Post : SI → SF → Prop} (h : ∃ P51 : SI → SF → Prop, wp_MM_take 1 1 0 J G P51 ∧ ∀ I51 F51, P51 I51 F51 → (∃ P52 : SI → SF → Prop, wp_MM_push 1 I51 F51 P52 ∧ ∀ I52 F52, P52 I52 F52 → (Post I52 F52))) : wp_MM_effect p1 5 p3 J G Post := ⟨fun _ => ⟨fun z => absurd z (by decide), fun _ => ⟨fun _ => ⟨fun z => absurd z (by decide), fun _ => ⟨fun _ => ⟨fun z => absurd z (by decide), fun _ => h⟩, fun z => absurd z (by decide)⟩⟩, fun z => absurd z (by decide)⟩⟩, fun z => absurd z (by decide)⟩
theorem me_6 {p1 p3 : Int32} {J : SI} {G : SF} {Post : SI → SF → Prop} (h : ∃ P51 : SI → SF → Prop, wp_MM_take 1 1 0 J G P51 ∧ ∀ I51 F51, P51 I51 F51 → (∃ P52 : SI → SF → Prop, wp_MM_push 1 I51 F51 P52 ∧ ∀ I52 F52, P52 I52 F52 → (Post I52 F52))) : wp_MM_effect p1 6 p3 J G Post := ⟨fun _ => ⟨fun z => absurd z (by decide), fun _ => ⟨fun _ => ⟨fun z => absurd z (by decide), fun _ => ⟨fun _ => ⟨fun z => absurd z (by decide), fun _ => h⟩, fun z => absurd z (by decide)⟩⟩, fun z => absurd z (by decide)⟩⟩, fun z => absurd z (by decide)⟩
theorem me_7 {p1 p3 : Int32} {J : SI} {G : SF} {Post : SI → SF → Prop} (h : ∃ P51 : SI → SF → Prop, wp_MM_take 1 1 0 J G P51 ∧ ∀ I51 F51, P51 I51 F51 → (∃ P52 : SI → SF → Prop, wp_MM_push 1 I51 F51 P52 ∧ ∀ I52 F52, P52 I52 F52 → (Post I52 F52))) : wp_MM_effect p1 7 p3 J G Post := ⟨fun _ => ⟨fun z => absurd z (by decide), fun _ => ⟨fun _ => ⟨fun z => absurd z (by decide), fun _ => ⟨fun _ => ⟨fun z => absurd z (by decide), fun _ => h⟩, fun z => absurd z (by decide)⟩⟩, fun z => absurd z (by decide)⟩⟩, fun z => absurd z (by decide)⟩
theorem me_8 {p1 p3 : Int32} {J : SI} {G : SF} {Post : SI → SF → Prop} (h : ∃ P51 : SI → SF → Prop, wp_MM_take 1 1 0 J G P51 ∧ ∀ I51 F51, P51 I51 F51 → (∃ P52 : SI → SF → Prop, wp_MM_push 1 I51 F51 P52 ∧ ∀ I52 F52, P52 I52 F52 → (Post I52 F52))) : wp_MM_effect p1 8 p3 J G Post := ⟨fun _ => ⟨fun z => absurd z (by decide), fun _ => ⟨fun _ => ⟨fun z => absurd z (by decide), fun _ => ⟨fun _ => ⟨fun z => absurd z (by decide), fun _ => h⟩, fun z => absurd z (by decide)⟩⟩, fun z => absurd z (by decide)⟩⟩, fun z => absurd z (by decide)⟩
theorem me_9 {p1 p3 : Int32} {J : SI} {G : SF} {Post : SI → SF → Prop} (h : ∃ P51 : SI → SF → Prop, wp_MM_take 1 1 0 J G P51 ∧ ∀ I51 F51, P51 I51 F51 → (∃ P52 : SI → SF → Prop, wp_MM_push 1 I51 F51 P52 ∧ ∀ I52 F52, P52 I52 F52 → (Post I52 F52))) : wp_MM_effect p1 9 p3 J G Post := ⟨fun _ => ⟨fun z => absurd z (by decide), fun _ => ⟨fun _ => ⟨fun z => absurd z (by decide), fun _ => ⟨fun _ => ⟨fun z => absurd z (by decide), fun _ => h⟩, fun z => absurd z (by decide)⟩⟩, fun z => absurd z (by decide)⟩⟩, fun z => absurd z (by decide)⟩
theorem me_10 {p1 p3 : Int32} {J : SI} {G : SF} {Post : SI → SF → Prop} (h : wp_MM_effect_105 Post (10 : Int32) J G) : wp_MM_effect p1 10 p3 J G Post := ⟨fun _ => ⟨fun z => absurd z (by decide), fun _ => ⟨fun _ => ⟨fun z => absurd z (by decide), fun _ => ⟨fun _ => ⟨fun _ => ⟨fun _ => h, fun z => absurd z (by decide)⟩, fun z => absurd z (by decide)⟩, fun z => absurd z (by decide)⟩⟩, fun z => absurd z (by decide)⟩⟩, fun z => absurd z (by decide)⟩
theorem me_11 {p1 p3 : Int32} {J : SI} {G : SF} {Post : SI → SF → Prop} (h : ∃ P49 : SI → SF → Prop, wp_MM_take 2 0 0 J G P49 ∧ ∀ I49 F49, P49 I49 F49 → (∃ P50 : SI → SF → Prop, wp_MM_push 1 I49 F49 P50 ∧ ∀ I50 F50, P50 I50 F50 → (Post I50 F50))) : wp_MM_effect p1 11 p3 J G Post := ⟨fun _ => ⟨fun z => absurd z (by decide), fun _ => ⟨fun _ => ⟨fun z => absurd z (by decide), fun _ => ⟨fun _ => ⟨fun _ => ⟨fun z => absurd z (by decide), fun _ => ⟨fun _ => ⟨fun z => absurd z (by decide), fun _ => h⟩, fun z => absurd z (by decide)⟩⟩, fun z => absurd z (by decide)⟩, fun z => absurd z (by decide)⟩⟩, fun z => absurd z (by decide)⟩⟩, fun z => absurd z (by decide)⟩
theorem me_12 {p1 p3 : Int32} {J : SI} {G : SF} {Post : SI → SF → Prop} (h : ∃ P47 : SI → SF → Prop, wp_MM_take 1 2 0 J G P47 ∧ ∀ I47 F47, P47 I47 F47 → (∃ P48 : SI → SF → Prop, wp_MM_push 1 I47 F47 P48 ∧ ∀ I48 F48, P48 I48 F48 → (Post I48 F48))) : wp_MM_effect p1 12 p3 J G Post := ⟨fun _ => ⟨fun z => absurd z (by decide), fun _ => ⟨fun _ => ⟨fun z => absurd z (by decide), fun _ => ⟨fun _ => ⟨fun _ => ⟨fun z => absurd z (by decide), fun _ => ⟨fun _ => ⟨fun _ => ⟨fun z => absurd z (by decide), fun _ => h⟩, fun z => absurd z (by decide)⟩, fun z => absurd z (by decide)⟩⟩, fun z => absurd z (by decide)⟩, fun z => absurd z (by decide)⟩⟩, fun z => absurd z (by decide)⟩⟩, fun z => absurd z (by decide)⟩
theorem me_13 {p1 p3 : Int32} {J : SI} {G : SF} {Post : SI → SF → Prop} (h : ∃ P46 : SI → SF → Prop, wp_MM_take 1 1 2 J G P46 ∧ ∀ I46 F46, P46 I46 F46 → (Post I46 F46)) : wp_MM_effect p1 13 p3 J G Post := ⟨fun _ => ⟨fun z => absurd z (by decide), fun _ => ⟨fun _ => ⟨fun z => absurd z (by decide), fun _ => ⟨fun _ => ⟨fun _ => ⟨fun z => absurd z (by decide), fun _ => ⟨fun _ => ⟨fun _ => ⟨fun _ => ⟨fun z => absurd z (by decide), fun _ => h⟩, fun z => absurd z (by decide)⟩, fun z => absurd z (by decide)⟩, fun z => absurd z (by decide)⟩⟩, fun z => absurd z (by decide)⟩, fun z => absurd z (by decide)⟩⟩, fun z => absurd z (by decide)⟩⟩, fun z => absurd z (by decide)⟩
theorem me_14 {p1 p3 : Int32} {J : SI} {G : SF} {Post : SI → SF → Prop} (h : Post J G) : wp_MM_effect p1 14 p3 J G Post := ⟨fun _ => ⟨fun z => absurd z (by decide), fun _ => ⟨fun _ => ⟨fun z => absurd z (by decide), fun _ => ⟨fun _ => ⟨fun _ => ⟨fun z => absurd z (by decide), fun _ => ⟨fun _ => ⟨fun _ => ⟨fun _ => ⟨fun _ => ⟨fun z => absurd z (by decide), fun _ => ⟨fun _ => ⟨fun z => absurd z (by decide), fun _ => ⟨fun _ => ⟨fun _ => ⟨fun _ => ⟨fun _ => ⟨fun _ => ⟨fun _ => ⟨fun _ => h, fun z => absurd z (by decide)⟩, fun z => absurd z (by decide)⟩, fun z => absurd z (by decide)⟩, fun z => absurd z (by decide)⟩, fun z => absurd z (by decide)⟩, fun z => absurd z (by decide)⟩, fun z => absurd z (by decide)⟩⟩, fun z => absurd z (by decide)⟩⟩, fun z => absurd z (by decide)⟩, fun z => absurd z (by decide)⟩, fun z => absurd z (by decide)⟩, fun z => absurd z (by decide)⟩⟩, fun z => absurd z (by decide)⟩, fun z => absurd z (by decide)⟩⟩, fun z => absurd z (by decide)⟩⟩, fun z => absurd z (by decide)⟩
theorem me_15 {p1 p3 : Int32} {J : SI} {G : SF} {Post : SI → SF → Prop} (h : wp_MM_effect_200 Post J G) : wp_MM_effect p1 15 p3 J G Post := ⟨fun _ => ⟨fun z => absurd z (by decide), fun _ => ⟨fun _ => ⟨fun z => absurd z (by decide), fun _ => ⟨fun _ => ⟨fun _ => ⟨fun z => absurd z (by decide), fun _ => ⟨fun _ => ⟨fun _ => ⟨fun _ => ⟨fun _ => ⟨fun _ => h, fun z => absurd z (by decide)⟩, fun z => absurd z (by decide)⟩, fun z => absurd z (by decide)⟩, fun z => absurd z (by decide)⟩, fun z => absurd z (by decide)⟩⟩, fun z => absurd z (by decide)⟩, fun z => absurd z (by decide)⟩⟩, fun z => absurd z (by decide)⟩⟩, fun z => absurd z (by decide)⟩
theorem me_16 {p1 p3 : Int32} {J : SI} {G : SF} {Post : SI → SF → Prop} (h : wp_MM_effect_222 Post J G) : wp_MM_effect p1 16 p3 J G Post := ⟨fun _ => ⟨fun z => absurd z (by decide), fun _ => ⟨fun _ => ⟨fun z => absurd z (by decide), fun _ => ⟨fun _ => ⟨fun _ => ⟨fun z => absurd z (by decide), fun _ => ⟨fun _ => ⟨fun _ => ⟨fun _ => ⟨fun _ => ⟨fun z => absurd z (by decide), fun _ => ⟨fun _ => ⟨fun _ => h, fun z => absurd z (by decide)⟩, fun z => absurd z (by decide)⟩⟩, fun z => absurd z (by decide)⟩, fun z => absurd z (by decide)⟩, fun z => absurd z (by decide)⟩, fun z => absurd z (by decide)⟩⟩, fun z => absurd z (by decide)⟩, fun z => absurd z (by decide)⟩⟩, fun z => absurd z (by decide)⟩⟩, fun z => absurd z (by decide)⟩
theorem me_17 {p1 p3 : Int32} {J : SI} {G : SF} {Post : SI → SF → Prop} (h : wp_MM_effect_222 Post J G) : wp_MM_effect p1 17 p3 J G Post := ⟨fun _ => ⟨fun z => absurd z (by decide), fun _ => ⟨fun _ => ⟨fun z => absurd z (by decide), fun _ => ⟨fun _ => ⟨fun _ => ⟨fun z => absurd z (by decide), fun _ => ⟨fun _ => ⟨fun _ => ⟨fun _ => ⟨fun _ => ⟨fun z => absurd z (by decide), fun _ => ⟨fun _ => ⟨fun z => absurd z (by decide), fun _ => ⟨fun z => absurd z (by decide), fun _ => h⟩⟩, fun z => absurd z (by decide)⟩⟩, fun z => absurd z (by decide)⟩, fun z => absurd z (by decide)⟩, fun z => absurd z (by decide)⟩, fun z => absurd z (by decide)⟩⟩, fun z => absurd z (by decide)⟩, fun z => absurd z (by decide)⟩⟩, fun z => absurd z (by decide)⟩⟩, fun z => absurd z (by decide)⟩
theorem me_18 {p1 p3 : Int32} {J : SI} {G : SF} {Post : SI → SF → Prop} (h : wp_MM_effect_105 Post (18 : Int32) J G) : wp_MM_effect p1 18 p3 J G Post := ⟨fun _ => ⟨fun z => absurd z (by decide), fun _ => ⟨fun _ => ⟨fun z => absurd z (by decide), fun _ => ⟨fun _ => ⟨fun _ => ⟨fun z => absurd z (by decide), fun _ => ⟨fun z => absurd z (by decide), fun _ => h⟩⟩, fun z => absurd z (by decide)⟩, fun z => absurd z (by decide)⟩⟩, fun z => absurd z (by decide)⟩⟩, fun z => absurd z (by decide)⟩
theorem me_19 {p1 p3 : Int32} {J : SI} {G : SF} {Post : SI → SF → Prop} (h : ∃ P45 : SI → SF → Prop, wp_MM_take 2 0 0 J G P45 ∧ ∀ I45 F45, P45 I45 F45 → (Post I45 F45)) : wp_MM_effect p1 19 p3 J G Post := ⟨fun _ => ⟨fun z => absurd z (by decide), fun _ => ⟨fun _ => ⟨fun z => absurd z (by decide), fun _ => ⟨fun _ => ⟨fun _ => ⟨fun z => absurd z (by decide), fun _ => ⟨fun _ => ⟨fun _ => ⟨fun _ => ⟨fun _ => ⟨fun z => absurd z (by decide), fun _ => ⟨fun _ => ⟨fun z => absurd z (by decide), fun _ => ⟨fun _ => ⟨fun z => absurd z (by decide), fun _ => h⟩, fun z => absurd z (by decide)⟩⟩, fun z => absurd z (by decide)⟩⟩, fun z => absurd z (by decide)⟩, fun z => absurd z (by decide)⟩, fun z => absurd z (by decide)⟩, fun z => absurd z (by decide)⟩⟩, fun z => absurd z (by decide)⟩, fun z => absurd z (by decide)⟩⟩, fun z => absurd z (by decide)⟩⟩, fun z => absurd z (by decide)⟩
theorem me_20 {p1 p3 : Int32} {J : SI} {G : SF} {Post : SI → SF → Prop} (h : ∃ P42 : Int32 → SI → SF → Prop, wp_MM_pop 0 J G P42 ∧ ∀ r42 I42 F42, P42 r42 I42 F42 → (∃ P43 : SI → SF → Prop, wp_MM_push r42 I42 F42 P43 ∧ ∀ I43 F43, P43 I43 F43 → (∃ P44 : SI → SF → Prop, wp_MM_push r42 I43 F43 P44 ∧ ∀ I44 F44, P44 I44 F44 → (Post I44 F44)))) : wp_MM_effect p1 20 p3 J G Post := ⟨fun _ => ⟨fun z => absurd z (by decide), fun _ => ⟨fun _ => ⟨fun z => absurd z (by decide), fun _ => ⟨fun _ => ⟨fun _ => ⟨fun z => absurd z (by decide), fun _ => ⟨fun _ => ⟨fun _ => ⟨fun _ => ⟨fun _ => ⟨fun z => absurd z (by decide), fun _ => ⟨fun _ => ⟨fun z => absurd z (by decide), fun _ => ⟨fun _ => ⟨fun _ => ⟨fun z => absurd z (by decide), fun _ => h⟩, fun z => absurd z (by decide)⟩, fun z => absurd z (by decide)⟩⟩, fun z => absurd z (by decide)⟩⟩, fun z => absurd z (by decide)⟩, fun z => absurd z (by decide)⟩, fun z => absurd z (by decide)⟩, fun z => absurd z (by decide)⟩⟩, fun z => absurd z (by decide)⟩, fun z => absurd z (by decide)⟩⟩, fun z => absurd z (by decide)⟩⟩, fun z => absurd z (by decide)⟩
theorem me_21 {p1 p3 : Int32} {J : SI} {G : SF} {Post : SI → SF → Prop} (h : ∃ P41 : Int32 → SI → SF → Prop, wp_MM_pop 0 J G P41 ∧ ∀ r41 I41 F41, P41 r41 I41 F41 → (Post I41 F41)) : wp_MM_effect p1 21 p3 J G Post := ⟨fun _ => ⟨fun z => absurd z (by decide), fun _ => ⟨fun _ => ⟨fun z => absurd z (by decide), fun _ => ⟨fun _ => ⟨fun _ => ⟨fun z => absurd z (by decide), fun _ => ⟨fun _ => ⟨fun _ => ⟨fun _ => ⟨fun _ => ⟨fun z => absurd z (by decide), fun _ => ⟨fun _ => ⟨fun z => absurd z (by decide), fun _ => ⟨fun _ => ⟨fun _ => ⟨fun _ => ⟨fun z => absurd z (by decide), fun _ => h⟩, fun z => absurd z (by decide)⟩, fun z => absurd z (by decide)⟩, fun z => absurd z (by decide)⟩⟩, fun z => absurd z (by decide)⟩⟩, fun z => absurd z (by decide)⟩, fun z => absurd z (by decide)⟩, fun z => absurd z (by decide)⟩, fun z => absurd z (by decide)⟩⟩, fun z => absurd z (by decide)⟩, fun z => absurd z (by decide)⟩⟩, fun z => absurd z (by decide)⟩⟩, fun z => absurd z (by decide)⟩
theorem me_22 {p1 p3 : Int32} {J : SI} {G : SF} {Post : SI → SF → Prop} (h : ∃ P37 : Int32 → SI → SF → Prop, wp_MM_pop 0 J G P37 ∧ ∀ r37 I37 F37, P37 r37 I37 F37 → (∃ P38 : Int32 → SI → SF → Prop, wp_MM_pop 0 I37 F37 P38 ∧ ∀ r38 I38 F38, P38 r38 I38 F38 → (∃ P39 : SI → SF → Prop, wp_MM_push r37 I38 F38 P39 ∧ ∀ I39 F39, P39 I39 F39 → (∃ P40 : SI → SF → Prop, wp_MM_push r38 I39 F39 P40 ∧ ∀ I40 F40, P40 I40 F40 → (Post I40 F40))))) : wp_MM_effect p1 22 p3 J G Post := ⟨fun _ => ⟨fun z => absurd z (by decide), fun _ => ⟨fun _ => ⟨fun z => absurd z (by decide), fun _ => ⟨fun _ => ⟨fun _ => ⟨fun z => absurd z (by decide), fun _ => ⟨fun _ => ⟨fun _ => ⟨fun _ => ⟨fun _ => ⟨fun z => absurd z (by decide), fun _ => ⟨fun _ => ⟨fun z => absurd z (by decide), fun _ => ⟨fun _ => ⟨fun _ => ⟨fun _ => ⟨fun _ => ⟨fun z => absurd z (by decide), fun _ => h⟩, fun z => absurd z (by decide)⟩, fun z => absurd z (by decide)⟩, fun z => absurd z (by decide)⟩, fun z => absurd z (by decide)⟩⟩, fun z => absurd z (by decide)⟩⟩, fun z => absurd z (by decide)⟩, fun z => absurd z (by decide)⟩, fun z => absurd z (by decide)⟩, fun z => absurd z (by decide)⟩⟩, fun z => absurd z (by decide)⟩, fun z => absurd z (by decide)⟩⟩, fun z => absurd z (by decide)⟩⟩, fun z => absurd z (by decide)⟩
theorem me_23 {p1 p3 : Int32} {J : SI} {G : SF} {Post : SI → SF → Prop} (h : ∃ P36 : SI → SF → Prop, wp_MM_call p3 J G P36 ∧ ∀ I36 F36, P36 I36 F36 → (Post I36 F36)) : wp_MM_effect p1 23 p3 J G Post := ⟨fun _ => ⟨fun z => absurd z (by decide), fun _ => ⟨fun _ => ⟨fun z => absurd z (by decide), fun _ => ⟨fun _ => ⟨fun _ => ⟨fun z => absurd z (by decide), fun _ => ⟨fun _ => ⟨fun _ => ⟨fun _ => ⟨fun _ => ⟨fun z => absurd z (by decide), fun _ => ⟨fun _ => ⟨fun z => absurd z (by decide), fun _ => ⟨fun _ => ⟨fun _ => ⟨fun _ => ⟨fun _ => ⟨fun _ => ⟨fun z => absurd z (by decide), fun _ => h⟩, fun z => absurd z (by decide)⟩, fun z => absurd z (by decide)⟩, fun z => absurd z (by decide)⟩, fun z => absurd z (by decide)⟩, fun z => absurd z (by decide)⟩⟩, fun z => absurd z (by decide)⟩⟩, fun z => absurd z (by decide)⟩, fun z => absurd z (by decide)⟩, fun z => absurd z (by decide)⟩, fun z => absurd z (by decide)⟩⟩, fun z => absurd z (by decide)⟩, fun z => absurd z (by decide)⟩⟩, fun z => absurd z (by decide)⟩⟩, fun z => absurd z (by decide)⟩
theorem me_24 {p1 p3 : Int32} {J : SI} {G : SF} {Post : SI → SF → Prop} (h : vp_in p1 8 ∧ (∃ P32 : SI → SF → Prop, wp_MM_take ((G 4) p1.toNatClampNeg) 0 0 J G P32 ∧ ∀ I32 F32, P32 I32 F32 → ((¬ (I32 2) = 0 → (wp_MM_effect_374 Post I32 F32)) ∧ ((I32 2) = 0 → (((I32 3) ≤ 0 → (wp_MM_effect_379 Post 0 I32 F32)) ∧ (¬ (I32 3) ≤ 0 → (wp_MM_effect_374 Post I32 F32))))))) : wp_MM_effect p1 24 p3 J G Post := ⟨fun _ => ⟨fun z => absurd z (by decide), fun _ => ⟨fun _ => ⟨fun z => absurd z (by decide), fun _ => ⟨fun _ => ⟨fun _ => ⟨fun z => absurd z (by decide), fun _ => ⟨fun _ => ⟨fun _ => ⟨fun _ => ⟨fun _ => ⟨fun z => absurd z (by decide), fun _ => ⟨fun _ => ⟨fun z => absurd z (by decide), fun _ => ⟨fun _ => ⟨fun _ => ⟨fun _ => ⟨fun _ => ⟨fun _ => ⟨fun _ => ⟨fun z => absurd z (by decide), fun _ => h⟩, fun z => absurd z (by decide)⟩, fun z => absurd z (by decide)⟩, fun z => absurd z (by decide)⟩, fun z => absurd z (by decide)⟩, fun z => absurd z (by decide)⟩, fun z => absurd z (by decide)⟩⟩, fun z => absurd z (by decide)⟩⟩, fun z => absurd z (by decide)⟩, fun z => absurd z (by decide)⟩, fun z => absurd z (by decide)⟩, fun z => absurd z (by decide)⟩⟩, fun z => absurd z (by decide)⟩, fun z => absurd z (by decide)⟩⟩, fun z => absurd z (by decide)⟩⟩, fun z => absurd z (by decide)⟩
theorem me_25 {p1 p3 : Int32} {J : SI} {G : SF} {Post : SI → SF → Prop} (h : wp_MM_effect_200 Post J G) : wp_MM_effect p1 25 p3 J G Post := ⟨fun _ => ⟨fun z => absurd z (by decide), fun _ => ⟨fun _ => ⟨fun z => absurd z (by decide), fun _ => ⟨fun _ => ⟨fun _ => ⟨fun z => absurd z (by decide), fun _ => ⟨fun _ => ⟨fun _ => ⟨fun _ => ⟨fun _ => ⟨fun z => absurd z (by decide), fun _ => ⟨fun z => absurd z (by decide), fun _ => h⟩⟩, fun z => absurd z (by decide)⟩, fun z => absurd z (by decide)⟩, fun z => absurd z (by decide)⟩, fun z => absurd z (by decide)⟩⟩, fun z => absurd z (by decide)⟩, fun z => absurd z (by decide)⟩⟩, fun z => absurd z (by decide)⟩⟩, fun z => absurd z (by decide)⟩
section MF
variable {P : aj_P} {m o : Nat} {v : Int32} {x : aj_S} {J : SI} {G : SF} {Post : SI → SF → Prop}
theorem tk_1 {a : Nat} (h : ¬ a = 0) : tk 0 (tk 0 (tk a (some x))) = aj_pops [a] x := by
  show tk a (some x) = (aj_pop a x).bind some
  unfold tk
  rw [if_neg h]
  show aj_pop a x = _
  cases aj_pop a x <;> rfl
theorem tk_2 {a c : Nat} (h : ¬ a = 0) (h2 : ¬ c = 0) : tk 0 (tk c (tk a (some x))) = aj_pops [a, c] x := by
  show tk c (tk a (some x)) = (aj_pop a x).bind (aj_pops [c])
  unfold tk
  rw [if_neg h, if_neg h2]
  show (aj_pop a x).bind (aj_pop c) = _
  cases aj_pop a x with
  | none => rfl
  | some y =>
    show aj_pop c y = (aj_pop c y).bind some
    cases aj_pop c y <;> rfl
theorem tk_3 {a c d : Nat} (h : ¬ a = 0) (h2 : ¬ c = 0) (h3 : ¬ d = 0) : tk d (tk c (tk a (some x))) = aj_pops [a, c, d] x := by
  show tk d (tk c (tk a (some x))) = (aj_pop a x).bind (aj_pops [c, d])
  unfold tk
  rw [if_neg h, if_neg h2, if_neg h3]
  show ((aj_pop a x).bind (aj_pop c)).bind (aj_pop d) = _
  cases aj_pop a x with
  | none => rfl
  | some y =>
    show (aj_pop c y).bind (aj_pop d) = (aj_pop c y).bind (aj_pops [d])
    cases aj_pop c y with
    | none => rfl
    | some z =>
      show aj_pop d z = (aj_pop d z).bind some
      cases aj_pop d z <;> rfl
theorem put_1 {o : Option aj_S} : o.bind (aj_put 1) = o.bind (aj_push 1) := by cases o <;> rfl
theorem put_2 {o : Option aj_S} : o.bind (aj_put 2) = o.bind (aj_push 2) := by cases o <;> rfl
theorem put_0 {o : Option aj_S} : o.bind (aj_put 0) = o := by cases o <;> rfl
theorem m_effect (hw : wfP P) (hm : mT P G) (hmm : m < 8) (ho : o ≤ 25) (h : mO 15 (some x) J G) (hP : ∀ J' G', kE J G J' G' → mO 17 (aj_do P m o v x) J' G' → Post J' G') : wp_MM_effect (nI m) (nI o) v J G Post := by
  by_cases q0 : o = 0
  · subst q0
    refine me_0 ⟨_, mt_push (t := 1) (by decide) h (fun _ _ => ⟨rfl, Or.inl rfl⟩) ?_, fun _ _ q => q⟩
    intro J' G' k e
    exact hP J' G' k (mO_le (by decide) e)
  by_cases q1 : o = 1
  · subst q1
    refine me_1 ⟨fun z => absurd rfl z, fun _ => ⟨_, mt_load (t := 1) (b := 15) (by decide) (by decide) hw hm hmm h ?_, fun _ _ q => q⟩⟩
    intro J' G' k e
    exact hP J' G' k (mO_le (by decide) e)
  by_cases q2 : o = 2
  · subst q2
    refine me_2 ⟨fun z => absurd rfl z, fun _ => ⟨_, mt_store (t := 1) (b := 15) (by decide) (by decide) hw hm hmm h ?_, fun _ _ q => q⟩⟩
    intro J' G' k e
    exact hP J' G' k (mO_le (by decide) e)
  by_cases q3 : o = 3
  · subst q3
    refine me_3 ⟨fun _ => ⟨_, mt_load (t := 2) (b := 15) (by decide) (by decide) hw hm hmm h ?_, fun _ _ q => q⟩, fun z => absurd z (by decide)⟩
    intro J' G' k e
    exact hP J' G' k (mO_le (by decide) e)
  by_cases q4 : o = 4
  · subst q4
    refine me_4 ⟨fun _ => ⟨_, mt_store (t := 2) (b := 15) (by decide) (by decide) hw hm hmm h ?_, fun _ _ q => q⟩, fun z => absurd z (by decide)⟩
    intro J' G' k e
    exact hP J' G' k (mO_le (by decide) e)
  by_cases q5 : o = 5
  · subst q5
    have ed : aj_do P m 5 v x = (aj_pops [1, 1] x).bind (aj_put 1) := rfl
    refine me_5 ⟨_, mt_take (a := 1) (c := 1) (d := 0) (b := 15) (by decide) (by decide) (by decide) (by decide) h ?_, fun _ _ q => q⟩
    intro J1 k1 e1
    rw [tk_2 (a := 1) (c := 1) (by decide) (by decide)] at e1
    refine ⟨_, mt_push (t := 1) (by decide) e1 (fun _ _ => ⟨rfl, by decide⟩) ?_, fun _ _ q => q⟩
    intro J2 G2 k2 e2
    refine hP J2 G2 (kE_tr k1 k2) (mO_le (a := 16) (by decide) ?_)
    rw [ed, put_1]
    exact e2
  by_cases q6 : o = 6
  · subst q6
    have ed : aj_do P m 6 v x = (aj_pops [1, 1] x).bind (aj_put 1) := rfl
    refine me_6 ⟨_, mt_take (a := 1) (c := 1) (d := 0) (b := 15) (by decide) (by decide) (by decide) (by decide) h ?_, fun _ _ q => q⟩
    intro J1 k1 e1
    rw [tk_2 (a := 1) (c := 1) (by decide) (by decide)] at e1
    refine ⟨_, mt_push (t := 1) (by decide) e1 (fun _ _ => ⟨rfl, by decide⟩) ?_, fun _ _ q => q⟩
    intro J2 G2 k2 e2
    refine hP J2 G2 (kE_tr k1 k2) (mO_le (a := 16) (by decide) ?_)
    rw [ed, put_1]
    exact e2
  by_cases q7 : o = 7
  · subst q7
    have ed : aj_do P m 7 v x = (aj_pops [1, 1] x).bind (aj_put 1) := rfl
    refine me_7 ⟨_, mt_take (a := 1) (c := 1) (d := 0) (b := 15) (by decide) (by decide) (by decide) (by decide) h ?_, fun _ _ q => q⟩
    intro J1 k1 e1
    rw [tk_2 (a := 1) (c := 1) (by decide) (by decide)] at e1
    refine ⟨_, mt_push (t := 1) (by decide) e1 (fun _ _ => ⟨rfl, by decide⟩) ?_, fun _ _ q => q⟩
    intro J2 G2 k2 e2
    refine hP J2 G2 (kE_tr k1 k2) (mO_le (a := 16) (by decide) ?_)
    rw [ed, put_1]
    exact e2
  by_cases q8 : o = 8
  · subst q8
    have ed : aj_do P m 8 v x = (aj_pops [1, 1] x).bind (aj_put 1) := rfl
    refine me_8 ⟨_, mt_take (a := 1) (c := 1) (d := 0) (b := 15) (by decide) (by decide) (by decide) (by decide) h ?_, fun _ _ q => q⟩
    intro J1 k1 e1
    rw [tk_2 (a := 1) (c := 1) (by decide) (by decide)] at e1
    refine ⟨_, mt_push (t := 1) (by decide) e1 (fun _ _ => ⟨rfl, by decide⟩) ?_, fun _ _ q => q⟩
    intro J2 G2 k2 e2
    refine hP J2 G2 (kE_tr k1 k2) (mO_le (a := 16) (by decide) ?_)
    rw [ed, put_1]
    exact e2
  by_cases q9 : o = 9
  · subst q9
    have ed : aj_do P m 9 v x = (aj_pops [1, 1] x).bind (aj_put 1) := rfl
    refine me_9 ⟨_, mt_take (a := 1) (c := 1) (d := 0) (b := 15) (by decide) (by decide) (by decide) (by decide) h ?_, fun _ _ q => q⟩
    intro J1 k1 e1
    rw [tk_2 (a := 1) (c := 1) (by decide) (by decide)] at e1
    refine ⟨_, mt_push (t := 1) (by decide) e1 (fun _ _ => ⟨rfl, by decide⟩) ?_, fun _ _ q => q⟩
    intro J2 G2 k2 e2
    refine hP J2 G2 (kE_tr k1 k2) (mO_le (a := 16) (by decide) ?_)
    rw [ed, put_1]
    exact e2
  by_cases q10 : o = 10
  · subst q10
    have ed : aj_do P m 10 v x = (aj_pops [1] x).bind (aj_put 2) := rfl
    refine me_10 ⟨fun z => absurd rfl z, fun _ => ⟨_, mt_take (a := 1) (c := 0) (d := 0) (b := 15) (by decide) (by decide) (by decide) (by decide) h ?_, fun _ _ q => q⟩⟩
    intro J1 k1 e1
    rw [tk_1 (a := 1) (by decide)] at e1
    refine ⟨_, mt_push (t := 2) (by decide) e1 (fun _ _ => ⟨rfl, by decide⟩) ?_, fun _ _ q => q⟩
    intro J2 G2 k2 e2
    refine hP J2 G2 (kE_tr k1 k2) (mO_le (a := 16) (by decide) ?_)
    rw [ed, put_2]
    exact e2
  by_cases q11 : o = 11
  · subst q11
    have ed : aj_do P m 11 v x = (aj_pops [2] x).bind (aj_put 1) := rfl
    refine me_11 ⟨_, mt_take (a := 2) (c := 0) (d := 0) (b := 15) (by decide) (by decide) (by decide) (by decide) h ?_, fun _ _ q => q⟩
    intro J1 k1 e1
    rw [tk_1 (a := 2) (by decide)] at e1
    refine ⟨_, mt_push (t := 1) (by decide) e1 (fun _ _ => ⟨rfl, by decide⟩) ?_, fun _ _ q => q⟩
    intro J2 G2 k2 e2
    refine hP J2 G2 (kE_tr k1 k2) (mO_le (a := 16) (by decide) ?_)
    rw [ed, put_1]
    exact e2
  by_cases q12 : o = 12
  · subst q12
    have ed : aj_do P m 12 v x = (aj_pops [1, 2] x).bind (aj_put 1) := rfl
    refine me_12 ⟨_, mt_take (a := 1) (c := 2) (d := 0) (b := 15) (by decide) (by decide) (by decide) (by decide) h ?_, fun _ _ q => q⟩
    intro J1 k1 e1
    rw [tk_2 (a := 1) (c := 2) (by decide) (by decide)] at e1
    refine ⟨_, mt_push (t := 1) (by decide) e1 (fun _ _ => ⟨rfl, by decide⟩) ?_, fun _ _ q => q⟩
    intro J2 G2 k2 e2
    refine hP J2 G2 (kE_tr k1 k2) (mO_le (a := 16) (by decide) ?_)
    rw [ed, put_1]
    exact e2
  by_cases q13 : o = 13
  · subst q13
    have ed : aj_do P m 13 v x = (aj_pops [1, 1, 2] x).bind (aj_put 0) := rfl
    refine me_13 ⟨_, mt_take (a := 1) (c := 1) (d := 2) (b := 15) (by decide) (by decide) (by decide) (by decide) h ?_, fun _ _ q => q⟩
    intro J1 k1 e1
    rw [tk_3 (a := 1) (c := 1) (d := 2) (by decide) (by decide) (by decide)] at e1
    refine hP J1 G k1 (mO_le (a := 15) (by decide) ?_)
    rw [ed, put_0]
    exact e1
  by_cases q14 : o = 14
  · subst q14
    refine me_14 (hP J G kE_rf (mO_le (a := 15) (by decide) ?_))
    show mO 15 (some x) J G
    exact h
  by_cases q15 : o = 15
  · subst q15
    have ed : aj_do P m 15 v x = (aj_pops [1] x).bind (aj_put 0) := rfl
    refine me_15 ⟨_, mt_take (a := 1) (c := 0) (d := 0) (b := 15) (by decide) (by decide) (by decide) (by decide) h ?_, fun _ _ q => q⟩
    intro J1 k1 e1
    rw [tk_1 (a := 1) (by decide)] at e1
    refine hP J1 G k1 (mO_le (a := 15) (by decide) ?_)
    rw [ed, put_0]
    exact e1
  by_cases q16 : o = 16
  · subst q16
    have ed : aj_do P m 16 v x = (aj_pops [1, 1] x).bind (aj_put 0) := rfl
    refine me_16 ⟨_, mt_take (a := 1) (c := 1) (d := 0) (b := 15) (by decide) (by decide) (by decide) (by decide) h ?_, fun _ _ q => q⟩
    intro J1 k1 e1
    rw [tk_2 (a := 1) (c := 1) (by decide) (by decide)] at e1
    refine hP J1 G k1 (mO_le (a := 15) (by decide) ?_)
    rw [ed, put_0]
    exact e1
  by_cases q17 : o = 17
  · subst q17
    have ed : aj_do P m 17 v x = (aj_pops [1, 1] x).bind (aj_put 0) := rfl
    refine me_17 ⟨_, mt_take (a := 1) (c := 1) (d := 0) (b := 15) (by decide) (by decide) (by decide) (by decide) h ?_, fun _ _ q => q⟩
    intro J1 k1 e1
    rw [tk_2 (a := 1) (c := 1) (by decide) (by decide)] at e1
    refine hP J1 G k1 (mO_le (a := 15) (by decide) ?_)
    rw [ed, put_0]
    exact e1
  by_cases q18 : o = 18
  · subst q18
    have ed : aj_do P m 18 v x = (aj_pops [] x).bind (aj_put 2) := rfl
    refine me_18 ⟨fun _ => ⟨_, mt_take (a := 0) (c := 0) (d := 0) (b := 15) (by decide) (by decide) (by decide) (by decide) h ?_, fun _ _ q => q⟩, fun z => absurd z (by decide)⟩
    intro J1 k1 e1
    have e1 : mO 15 (aj_pops [] x) J1 G := e1
    refine ⟨_, mt_push (t := 2) (by decide) e1 (fun _ _ => ⟨rfl, by decide⟩) ?_, fun _ _ q => q⟩
    intro J2 G2 k2 e2
    refine hP J2 G2 (kE_tr k1 k2) (mO_le (a := 16) (by decide) ?_)
    rw [ed, put_2]
    exact e2
  by_cases q19 : o = 19
  · subst q19
    have ed : aj_do P m 19 v x = (aj_pops [2] x).bind (aj_put 0) := rfl
    refine me_19 ⟨_, mt_take (a := 2) (c := 0) (d := 0) (b := 15) (by decide) (by decide) (by decide) (by decide) h ?_, fun _ _ q => q⟩
    intro J1 k1 e1
    rw [tk_1 (a := 2) (by decide)] at e1
    refine hP J1 G k1 (mO_le (a := 15) (by decide) ?_)
    rw [ed, put_0]
    exact e1
  by_cases q20 : o = 20
  · subst q20
    have ed : aj_do P m 20 v x = aj_dup x := rfl
    have hwt : wt x := h.2.2.2.1
    refine me_20 ⟨_, mt_pop (t := 0) (by decide) (by decide) h ?_, fun _ _ _ q => q⟩
    intro r J1 k1 e1 hr
    have e1 : mO 15 (aj_pop 0 x) J1 G := e1
    have hv : ∀ y, aj_pop 0 x = some y → r = nI (x.2.1 (x.1 - 1)) ∧ (x.2.1 (x.1 - 1) = 1 ∨ x.2.1 (x.1 - 1) = 2) := fun y e => ⟨hr x rfl (aj_pop_s e).1, hwt.1 _ (by have := (aj_pop_s e).1; omega)⟩
    refine ⟨_, mt_push (t := x.2.1 (x.1 - 1)) (by decide) e1 hv ?_, fun _ _ q => q⟩
    intro J2 G2 k2 e2
    refine ⟨_, mt_push (t := x.2.1 (x.1 - 1)) (by decide) e2 (fun y e => ?_) ?_, fun _ _ q => q⟩
    · obtain ⟨z, a, -⟩ := bind_s e
      exact hv z a
    · intro J3 G3 k3 e3
      refine hP J3 G3 (kE_tr k1 (kE_tr k2 k3)) ?_
      rw [ed]
      unfold aj_dup
      by_cases q : x.1 = 0
      · rw [if_pos q]
        rw [aj_pop_n (t := 0) (x := x) (fun w => w.1 q)] at e3
        exact e3
      · rw [if_neg q]
        rw [aj_pop_y (t := 0) q (Or.inl rfl)] at e3
        have e4 : ((some (x.1 - 1, x.2)).bind (aj_push (x.2.1 (x.1 - 1)))).bind (aj_push (x.2.1 (x.1 - 1))) = aj_push (x.2.1 (x.1 - 1)) x := by
          show some (x.1 - 1 + 1 + 1, va_up (va_up x.2.1 (x.1 - 1) (x.2.1 (x.1 - 1))) (x.1 - 1 + 1) (x.2.1 (x.1 - 1)), x.2.2) = some (x.1 + 1, va_up x.2.1 x.1 (x.2.1 (x.1 - 1)), x.2.2)
          rw [va_same x.2.1 (x.1 - 1) rfl, show x.1 - 1 + 1 = x.1 by omega]
        rw [e4] at e3
        exact e3
  by_cases q21 : o = 21
  · subst q21
    have ed : aj_do P m 21 v x = aj_pop 0 x := rfl
    refine me_21 ⟨_, mt_pop (t := 0) (by decide) (by decide) h ?_, fun _ _ _ q => q⟩
    intro r J1 k1 e1 _
    refine hP J1 G k1 (mO_le (a := 15) (by decide) ?_)
    rw [ed]
    exact e1
  by_cases q22 : o = 22
  · subst q22
    have ed : aj_do P m 22 v x = aj_swap x := rfl
    have hwt : wt x := h.2.2.2.1
    refine me_22 ⟨_, mt_pop (t := 0) (by decide) (by decide) h ?_, fun _ _ _ q => q⟩
    intro r J1 k1 e1 hr
    have e1 : mO 15 (aj_pop 0 x) J1 G := e1
    refine ⟨_, mt_pop (t := 0) (by decide) (by decide) e1 ?_, fun _ _ _ q => q⟩
    intro r2 J2 k2 e2 hr2
    by_cases q : x.1 < 2
    · have en : (aj_pop 0 x).bind (aj_pop 0) = none := by
        by_cases q0 : x.1 = 0
        · rw [aj_pop_n (t := 0) (x := x) (fun w => w.1 q0)]; rfl
        · rw [aj_pop_y (t := 0) q0 (Or.inl rfl)]
          exact aj_pop_n (fun w => w.1 (by show x.1 - 1 = 0; omega))
      rw [en] at e2
      refine ⟨_, mt_push (t := 0) (by decide) e2 (fun y e => by cases e) ?_, fun _ _ q => q⟩
      intro J3 G3 k3 e3
      refine ⟨_, mt_push (t := 0) (by decide) e3 (fun y e => by cases e) ?_, fun _ _ q => q⟩
      intro J4 G4 k4 e4
      refine hP J4 G4 (kE_tr k1 (kE_tr k2 (kE_tr k3 k4))) ?_
      rw [ed]
      unfold aj_swap
      rw [if_pos q]
      exact e4
    · have ep : aj_pop 0 x = some (x.1 - 1, x.2) := aj_pop_y (by omega) (Or.inl rfl)
      have ep2 : aj_pop 0 (x.1 - 1, x.2) = some (x.1 - 1 - 1, x.2) := aj_pop_y (by show ¬ x.1 - 1 = 0; omega) (Or.inl rfl)
      have r1 := hr x rfl (by omega)
      have r2' : r2 = nI (x.2.1 (x.1 - 2)) := by
        have := hr2 (x.1 - 1, x.2) ep (by show ¬ x.1 - 1 = 0; omega)
        rw [this]
        show nI (x.2.1 (x.1 - 1 - 1)) = _
        rw [show x.1 - 1 - 1 = x.1 - 2 by omega]
      rw [ep] at e2
      have e2 : mO 15 (aj_pop 0 (x.1 - 1, x.2)) J2 G := e2
      rw [ep2] at e2
      refine ⟨_, mt_push (t := x.2.1 (x.1 - 1)) (by decide) e2 (fun y e => ⟨r1, hwt.1 _ (by omega)⟩) ?_, fun _ _ q => q⟩
      intro J3 G3 k3 e3
      refine ⟨_, mt_push (t := x.2.1 (x.1 - 2)) (by decide) e3 (fun y e => ⟨r2', hwt.1 _ (by omega)⟩) ?_, fun _ _ q => q⟩
      intro J4 G4 k4 e4
      refine hP J4 G4 (kE_tr k1 (kE_tr k2 (kE_tr k3 k4))) ?_
      rw [ed]
      unfold aj_swap
      rw [if_neg q]
      have e5 : ((some (x.1 - 1 - 1, x.2)).bind (aj_push (x.2.1 (x.1 - 1)))).bind (aj_push (x.2.1 (x.1 - 2))) = some (x.1, va_up (va_up x.2.1 (x.1 - 2) (x.2.1 (x.1 - 1))) (x.1 - 1) (x.2.1 (x.1 - 2)), x.2.2) := by
        show some (x.1 - 1 - 1 + 1 + 1, va_up (va_up x.2.1 (x.1 - 1 - 1) (x.2.1 (x.1 - 1))) (x.1 - 1 - 1 + 1) (x.2.1 (x.1 - 2)), x.2.2) = _
        rw [show x.1 - 1 - 1 + 1 + 1 = x.1 by omega, show x.1 - 1 - 1 + 1 = x.1 - 1 by omega, show x.1 - 1 - 1 = x.1 - 2 by omega]
      rw [e5] at e4
      exact e4
  by_cases q23 : o = 23
  · subst q23
    refine me_23 ⟨_, mt_call (m := m) (b := 15) (by decide) hw hm h ?_, fun _ _ q => q⟩
    intro J' G' k e
    exact hP J' G' k (mO_le (by decide) e)
  by_cases q24 : o = 24
  · subst q24
    have w4 := (hw m hmm).2.2.2.1
    have ed : aj_do P m 24 v x = (if P.1 m 3 = 0 then some x else aj_pop (P.1 m 3) x).bind aj_nil := rfl
    refine me_24 ⟨vp_in_nI hmm (by decide), ?_⟩
    rw [cl (show m < 2 ^ 31 by omega), (hm m hmm).2.2.2.1]
    refine ⟨_, mt_take (a := P.1 m 3) (c := 0) (d := 0) (b := 15) w4 (by decide) (by decide) (by decide) h ?_, fun _ _ q => q⟩
    intro J1 k1 e1
    have et : tk 0 (tk 0 (tk (P.1 m 3) (some x))) = if P.1 m 3 = 0 then some x else aj_pop (P.1 m 3) x := rfl
    rw [et] at e1
    rw [ed] at hP
    generalize (if P.1 m 3 = 0 then some x else aj_pop (P.1 m 3) x) = o1 at e1 hP
    cases o1 with
    | none =>
      obtain ⟨g2, hh, hle, g3⟩ := e1
      rw [g2]
      exact z1 ⟨bo_1, hP _ _ (kE_tr k1 kE_2) ⟨rfl, hh, by omega, g3⟩⟩
    | some y =>
      obtain ⟨g2, g3, gle, g4⟩ := e1
      have hP : ∀ J' G', kE J G J' G' → mO 17 (aj_nil y) J' G' → Post J' G' := hP
      unfold aj_nil at hP
      rw [g2, g3]
      refine z0 ⟨fun z => ⟨bo_0, hP _ _ (kE_tr k1 kE_2) ?_⟩, fun z => ⟨bo_1, hP _ _ (kE_tr k1 kE_2) ?_⟩⟩
      · have e0 : y.1 = 0 := by
          rcases Nat.eq_zero_or_pos y.1 with e | e
          · exact e
          · exact absurd z (nI_nle e (by omega))
        rw [if_pos e0]
        exact ⟨rfl, g3, by omega, g4⟩
      · rw [if_neg (fun e => z (by rw [e]; decide))]
        exact ⟨rfl, y.1, by omega, g3⟩
  by_cases q25 : o = 25
  · subst q25
    have ed : aj_do P m 25 v x = (aj_pops [1] x).bind (aj_put 0) := rfl
    refine me_25 ⟨_, mt_take (a := 1) (c := 0) (d := 0) (b := 15) (by decide) (by decide) (by decide) (by decide) h ?_, fun _ _ q => q⟩
    intro J1 k1 e1
    rw [tk_1 (a := 1) (by decide)] at e1
    refine hP J1 G k1 (mO_le (a := 15) (by decide) ?_)
    rw [ed, put_0]
    exact e1
  omega
end MF
