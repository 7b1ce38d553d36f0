/-! all that a method's ways come to call -/
theorem bs_or {n : Nat} {f g : Nat → Bool} {v w : Int32} (h : bs n f v) (h2 : bs n g w) : bs n (fun i => f i || g i) (v ||| w) := by
  intro i hi
  rw [b_or, h i hi, h2 i hi]
  by_cases q : i < n
  · rw [decide_eq_true q]; simp
  · rw [decide_eq_false q]; simp
def zf62 (x0 x1 : Int32) : Int32 := if x0 ≤ 4 then x1 + ((x0.toUInt32 >>> ((1 : Int32).toUInt32 &&& Int32.toUInt32 31)).toInt32) else x1 + 2 + (((x0.toUInt32 >>> ((2 : Int32).toUInt32 &&& Int32.toUInt32 31)).toInt32.toUInt32 >>> ((1 : Int32).toUInt32 &&& Int32.toUInt32 31)).toInt32)
def zf49 (x0 x1 : Int32) : Int32 := if x0 ≤ 16 then zf62 x0 x1 else zf62 ((x0.toUInt32 >>> ((4 : Int32).toUInt32 &&& Int32.toUInt32 31)).toInt32) (x1 + 4)
def zf34 (x0 x1 : Int32) : Int32 := if x0 ≤ 256 then zf49 x0 x1 else zf49 ((x0.toUInt32 >>> ((8 : Int32).toUInt32 &&& Int32.toUInt32 31)).toInt32) (x1 + 8)
def zf (p1 : Int32) : Int32 := if 0 < (p1 ^^^ (-1)) &&& (p1 - 1) then (if (p1 ^^^ (-1)) &&& (p1 - 1) ≤ 65536 then zf34 ((p1 ^^^ (-1)) &&& (p1 - 1)) 1 else zf34 ((((p1 ^^^ (-1)) &&& (p1 - 1)).toUInt32 >>> ((16 : Int32).toUInt32 &&& Int32.toUInt32 31)).toInt32) (1 + 16)) else ((p1 ^^^ (-1)) &&& (p1 - 1)) &&& 32
section ZF
variable {I : SI} {F : SF} {Post : Int32 → SI → SF → Prop}
theorem zf62_ev {x0 x1 : Int32} (h : Post (zf62 x0 x1) I F) : wp_IN_numberOfTrailingZeros_62 Post x0 x1 I F := by
  unfold zf62 at h
  refine ⟨fun z => by rw [if_pos z] at h; exact h, fun z x7 e7 x8 e8 => ?_⟩
  rw [if_neg z] at h
  subst e7 e8
  exact h
theorem zf49_ev {x0 x1 : Int32} (h : Post (zf49 x0 x1) I F) : wp_IN_numberOfTrailingZeros_49 Post x0 x1 I F := by
  unfold zf49 at h
  refine ⟨fun z => by rw [if_pos z] at h; exact zf62_ev h, fun z x7 e7 x8 e8 => ?_⟩
  rw [if_neg z] at h
  subst e7 e8
  exact zf62_ev h
theorem zf34_ev {x0 x1 : Int32} (h : Post (zf34 x0 x1) I F) : wp_IN_numberOfTrailingZeros_34 Post x0 x1 I F := by
  unfold zf34 at h
  refine ⟨fun z => by rw [if_pos z] at h; exact zf49_ev h, fun z x7 e7 x8 e8 => ?_⟩
  rw [if_neg z] at h
  subst e7 e8
  exact zf49_ev h
theorem zf_ev {p : Int32} (h : Post (zf p) I F) : wp_IN_numberOfTrailingZeros p I F Post := by
  unfold zf at h
  intro x1 e1
  rw [← e1] at h
  refine ⟨fun z => ?_, fun z => ?_⟩
  · rw [if_pos z] at h
    refine ⟨fun z2 => ?_, fun z2 x13 e13 x14 e14 => ?_⟩
    · rw [if_pos z2] at h; exact zf34_ev h
    · rw [if_neg z2] at h
      subst e13 e14
      exact zf34_ev h
  · rw [if_neg z] at h; exact h
end ZF
theorem zf_256 : ∀ a : Nat, a < 256 → a ≠ 0 → ∃ k : Nat, k < 8 ∧ a.testBit k = true ∧ zf (nI a) = nI k := by decide +kernel
theorem zf_bs {f : Nat → Bool} {v : Int32} (h : bs 8 f v) (hn : ∃ i, i < 8 ∧ f i = true) : ∃ k, k < 8 ∧ f k = true ∧ zf v = nI k := by
  obtain ⟨n, hn2, rfl⟩ := nx_of v
  have hb : ∀ i, i < 32 → n.testBit i = (decide (i < 8) && f i) := fun i hi => by rw [← bt_nI n hi]; exact h i hi
  have h256 : n < 2 ^ 8 := by
    apply Nat.lt_pow_two_of_testBit
    intro i hi
    by_cases q : i < 32
    · rw [hb i q, decide_eq_false (by omega), Bool.false_and]
    · exact tb_hi hn2 (by omega)
  have hne : n ≠ 0 := by
    intro e
    obtain ⟨i, i8, fi⟩ := hn
    have := hb i (by omega)
    rw [e, Nat.zero_testBit, decide_eq_true i8, fi] at this
    exact absurd this (by decide)
  obtain ⟨k, k8, k1, k2⟩ := zf_256 n h256 hne
  refine ⟨k, k8, ?_, k2⟩
  have := hb k (by omega)
  rw [k1, decide_eq_true k8] at this
  simpa using this.symm
/-- the ways of a method come to call j -/
def cls (P : aj_P) (K : aj_J) (m j : Nat) : Prop := ∃ p x, K p = some x ∧ P.2.1 m p = 23 ∧ (P.2.2 m p).toNatClampNeg = j
section CG
variable {P : aj_P} {m : Nat} {K : aj_J} {I : SI} {F : SF} {Post : Int32 → SI → SF → Prop}
theorem c_called (hw : wfP P) (hc : cT P I F) (hm : m < 8) (hK : aj_least P m K) (hJc : cJ K F) (h : ∀ (r : Int32) (c : Nat → Bool), bs 8 c r → (∀ j, c j = true ↔ cls P K m j) → Post r I F) : wp_Ju_calledBy m I F Post := by
  have hs := s120 hw hm
  have key : ∀ (d : Nat) {t : Nat} {x2 : Int32} {c : Nat → Bool}, t + d = P.1 m 6 → bs 8 c x2 → (∀ j, c j = true ↔ ∃ p x, p < t ∧ K p = some x ∧ P.2.1 m p = 23 ∧ (P.2.2 m p).toNatClampNeg = j) → wp_Ju_calledBy_4 Post (d + 1) m x2 (nI t) I F := by
    intro d
    induction d with
    | zero =>
      intro t x2 c ht hb hcj
      unfold wp_Ju_calledBy_4
      rw [c_size hc hm]
      refine ⟨fun _ => h x2 c hb (fun j => (hcj j).trans ⟨fun ⟨p, x, _, a, b, e⟩ => ⟨p, x, a, b, e⟩, fun ⟨p, x, a, b, e⟩ => ⟨p, x, ?_, a, b, e⟩⟩), fun z => absurd (nI_le (by omega) (by omega)) z⟩
      have := (hK.1.1 p x a).1
      omega
    | succ d ih =>
      intro t x2 c ht hb hcj
      have ht2 : t < 120 := by omega
      have htm : t < P.1 m 6 := by omega
      have skip : ¬ (∃ x, K t = some x ∧ P.2.1 m t = 23) → wp_Ju_calledBy_41 (wp_Ju_calledBy_4 Post (d + 1)) Post m x2 (nI t) I F := by
        intro hn x4 e4
        subst e4
        rw [nI_1]
        refine ih (by omega) hb (fun j => (hcj j).trans ⟨fun ⟨p, x, a, b⟩ => ⟨p, x, by omega, b⟩, fun ⟨p, x, a, b, c, e⟩ => ⟨p, x, ?_, b, c, e⟩⟩)
        by_cases w : p = t
        · subst w
          exact absurd ⟨x, b, c⟩ hn
        · omega
      unfold wp_Ju_calledBy_4
      rw [c_size hc hm]
      simp only [ev_hat ht2, c_oat hw hc hm htm, c_nat hw hc hm htm, ex3, hJ_c hJc ht2]
      have c23 : nI (P.2.1 m t) = 23 ↔ P.2.1 m t = 23 := nI_eq (by have := (hw m hm).2.2.2.2.2.2.2.2 t ht2; omega) (by decide)
      refine ⟨fun z => absurd z (nI_ge htm (by omega)), fun _ => ⟨fun z => skip (fun ⟨x, a, _⟩ => ?_), fun z => ⟨fun z2 => skip (fun ⟨x, _, b⟩ => z2 (c23.mpr b)), fun z2 x8 e8 => ?_⟩⟩⟩
      · have hx := ((hJc t ht2).2 x a).2.1
        unfold hJ at z
        rw [a] at z
        exact absurd z (nI_m1 (show x.1 < 2 ^ 31 by omega))
      · have h23 := c23.mp z2
        cases e : K t with
        | none =>
          unfold hJ at z
          rw [e] at z
          exact absurd rfl z
        | some x =>
          obtain ⟨v1, -⟩ := aj_call hK.1 e h23
          obtain ⟨k, hk, ek⟩ := vp_in_of v1 (by decide)
          rw [ek] at e8
          subst e8
          intro x4 e4
          subst e4
          rw [nI_1]
          refine ih (by omega) (bs_set hb hk (by decide)) (fun j => ?_)
          by_cases w : j = k
          · subst w
            rw [va_up_self]
            exact ⟨fun _ => ⟨t, x, by omega, e, h23, by rw [ek]; exact cl (by omega)⟩, fun _ => rfl⟩
          · rw [va_up_ne _ _ w, hcj j]
            refine ⟨fun ⟨p, x, a, b⟩ => ⟨p, x, by omega, b⟩, fun ⟨p, x2, a, b, c, d⟩ => ⟨p, x2, ?_, b, c, d⟩⟩
            by_cases w2 : p = t
            · subst w2
              rw [ek, cl (show k < 2 ^ 31 by omega)] at d
              exact absurd d.symm w
            · omega
  exact ⟨P.1 m 6 + 1, key (P.1 m 6) (t := 0) (c := fun _ => false) (by omega) bs_0 (fun j => ⟨fun q => (by cases q), fun ⟨p, x, a, _⟩ => absurd a (Nat.not_lt_zero _)⟩)⟩
end CG
/-- the count of a set of methods -/
theorem n8_up {k : Nat → Bool} {p : Nat} (hp : p < 8) (hk : k p = false) : aj_nw 8 (va_up k p true) = aj_nw 8 k + 1 := by
  have e : (fun q => (if va_up k p true q = true then 1 else 0 : Nat)) = va_up (fun q => (if k q = true then 1 else 0 : Nat)) p 1 := by
    funext j
    by_cases w : j = p
    · rw [w, va_up_self, va_up_self, if_pos rfl]
    · rw [va_up_ne _ _ w, va_up_ne _ _ w]
  have := aj_sum_up (f := fun q => (if k q = true then 1 else 0 : Nat)) (v := 1) hp
  unfold aj_nw
  rw [e]
  rw [hk] at this
  simpa using this
theorem n8_le {k : Nat → Bool} : aj_nw 8 k ≤ 8 := by
  have := aj_sum_c (f := fun q => (if k q = true then 1 else 0 : Nat)) (c := 1) (n := 8) (fun j _ => by split <;> omega)
  unfold aj_nw
  omega
theorem n8_all {k : Nat → Bool} (h : aj_nw 8 k = 8) {p : Nat} (hp : p < 8) : k p = true := by
  cases e : k p with
  | true => rfl
  | false =>
    have := n8_up hp e
    have := n8_le (k := va_up k p true)
    omega
theorem n8_mono {k l : Nat → Bool} (h : ∀ p, k p = true → l p = true) : aj_nw 8 k ≤ aj_nw 8 l := by
  refine aj_sum_le (fun j _ => ?_)
  cases e : k j with
  | false => simp
  | true => rw [h j e]; simp
theorem n8_lt {k l : Nat → Bool} (h : ∀ p, k p = true → l p = true) {p : Nat} (hp : p < 8) (h1 : k p = false) (h2 : l p = true) : aj_nw 8 k < aj_nw 8 l := by
  have := n8_mono (k := va_up k p true) (l := l) (fun q hq => by
    by_cases w : q = p
    · rw [w]; exact h2
    · rw [va_up_ne _ _ w] at hq; exact h q hq)
  rw [n8_up hp h1] at this
  omega
/-- a method of the set is good, and its calls are in the set w -/
def gd (P : aj_P) (k : Nat) (w : Nat → Bool) : Prop := k < 8 ∧ P.1 k 0 = 1 ∧ ∃ K, aj_least P k K ∧ ∀ j, cls P K k j → w j = true
/-- the methods that every such set holds -/
def bel (P : aj_P) (m : Nat) (w : Nat → Bool) : Prop := (∀ k, w k = true → k < 8 ∧ P.1 k 0 = 1) ∧ w m = true ∧ ∀ g, ag_set P m g → ∀ k, w k = true → g k = true
theorem gd_mono {P : aj_P} {k : Nat} {w u : Nat → Bool} (h : gd P k w) (g : ∀ j, w j = true → u j = true) : gd P k u := by
  obtain ⟨a, b, K, c, d⟩ := h
  exact ⟨a, b, K, c, fun j hj => g j (d j hj)⟩
theorem ag_of {P : aj_P} {m : Nat} {w : Nat → Bool} (hm : w m = true) (h : ∀ k, w k = true → gd P k w) : ag_set P m w := by
  refine ⟨hm, fun k hk => ?_⟩
  obtain ⟨a, b, K, c, d⟩ := h k hk
  exact ⟨a, b, K, c, fun p x e1 e2 => d _ ⟨p, x, e1, e2, rfl⟩⟩
/-- what a good method of such a set calls is in it, and there -/
theorem bel_up {P : aj_P} {m k : Nat} {w c : Nat → Bool} {K : aj_J} (hw : bel P m w) (hk : w k = true) (hK : aj_least P k K) (hc : ∀ j, c j = true → cls P K k j) : bel P m (fun j => w j || c j) := by
  obtain ⟨a, b, d⟩ := hw
  refine ⟨fun j hj => ?_, by simp [b], fun g hg j hj => ?_⟩
  · cases e : w j with
    | true => exact a j e
    | false =>
      have hj : c j = true := by simpa [e] using hj
      obtain ⟨p, x, e1, e2, e3⟩ := hc j hj
      have := aj_call hK.1 e1 e2
      rw [← e3]
      exact ⟨vin_lt this.1, this.2⟩
  · cases e : w j with
    | true => exact d g hg j e
    | false =>
      have hj : c j = true := by simpa [e] using hj
      obtain ⟨p, x, e1, e2, e3⟩ := hc j hj
      obtain ⟨-, -, L, l1, l2⟩ := hg.2 k (d g hg k hk)
      obtain ⟨y, y1, -⟩ := aj_least_eq hK l1 e1
      rw [← e3]
      exact l2 p y y1 e2
/-- is there such a set -/
noncomputable def AGb (P : aj_P) (m : Nat) : Int32 := bi (∃ g, ag_set P m g)
theorem c_areGood {P : aj_P} {m : Nat} {I : SI} {F : SF} {Post : Int32 → SI → SF → Prop} (hw : wfP P) (hc : cT P I F) (hm : m < 8) (h1 : P.1 m 0 = 1) (h : ∀ I' F', kC I F I' F' → Post (AGb P m) I' F') : wp_CJ_areGoodFrom (nI m) I F Post := by
  have key : ∀ (d : Nat) {t : Nat} {x2 x3 : Int32} {w j : Nat → Bool} {I1 : SI} {F1 : SF}, t + d = 8 → kC I F I1 F1 → bs 8 w x2 → bs 8 j x3 → bel P m w → (∀ k, j k = true → w k = true ∧ gd P k w) → aj_nw 8 j = t → wp_CJ_areGoodFrom_9 Post (d + 1) x2 x3 (nI t) I1 F1 := by
    intro d
    induction d with
    | zero =>
      intro t x2 x3 w j I1 F1 ht hk bw bj hb hj hn
      unfold wp_CJ_areGoodFrom_9
      have hg : ∃ g, ag_set P m g := ⟨w, ag_of hb.2.1 (fun k hk => (hj k (n8_all (by omega) (hb.1 k hk).1)).2)⟩
      have fin : Post 1 I1 F1 := by
        have := h I1 F1 hk
        unfold AGb at this
        rw [bi_y hg] at this
        exact this
      exact ⟨fun _ => fin, fun z => absurd (show 8 ≤ nI t by rw [show t = 8 by omega]; decide) z⟩
    | succ d ih =>
      intro t x2 x3 w j I1 F1 ht hk bw bj hb hj hn
      unfold wp_CJ_areGoodFrom_9
      refine ⟨fun z => absurd z (nI_ge (show t < 8 by omega) (by decide)), fun _ => ⟨fun z => ?_, fun z => ?_⟩⟩
      · have e := (bs_eq bw bj (by decide)).mp z
        have hg : ∃ g, ag_set P m g := ⟨w, ag_of hb.2.1 (fun k hk => (hj k (by rw [← e k (hb.1 k hk).1]; exact hk)).2)⟩
        have := h I1 F1 hk
        unfold AGb at this
        rw [bi_y hg] at this
        exact this
      · have hc1 := cT_kC hc hk
        have bd : bs 8 (fun i => w i && !j i) (x2 &&& (x3 ^^^ (-1))) := by
          intro i hi
          rw [b_and, b_xor, bw i hi, bj i hi, b_m1 i hi]
          show ((decide (i < 8) && w i) && ((decide (i < 8) && j i) ^^ true)) = (decide (i < 8) && (w i && !j i))
          by_cases q : i < 8
          · rw [decide_eq_true q]; cases w i <;> cases j i <;> rfl
          · rw [decide_eq_false q]; simp
        have hex : ∃ i, i < 8 ∧ (w i && !j i) = true := by
          apply Classical.byContradiction
          intro hno
          refine z ((bs_eq bw bj (by decide)).mpr (fun i hi => ?_))
          cases e1 : w i with
          | false =>
            cases e2 : j i with
            | false => rfl
            | true => rw [(hj i e2).1] at e1; cases e1
          | true =>
            cases e2 : j i with
            | true => rfl
            | false => exact absurd ⟨i, hi, by rw [e1, e2]; rfl⟩ hno
        obtain ⟨k, k8, k1, k2⟩ := zf_bs bd hex
        have kw : w k = true := by
          cases e : w k with
          | true => rfl
          | false => rw [e] at k1; cases k1
        have kj : j k = false := by
          cases e : j k with
          | false => rfl
          | true => rw [e, kw] at k1; cases k1
        have ck : (nI k).toNatClampNeg = k := cl (by omega)
        have hv := vp_in_nI k8 (show 8 < 2 ^ 31 by decide)
        refine ⟨_, zf_ev ?_, fun _ _ _ q => q⟩
        rw [k2]
        simp only [ev_below, ex3, bi_y (show ¬ nI k < 0 ∧ nI k < 8 from ⟨nI_pos (by omega), nI_lt k8 (by decide)⟩), ck]
        refine y1 ⟨hv, _, c_app hw hc1 k8 ?_, fun _ _ _ q => q⟩
        intro r I2 F2 k3 a
        rcases a with ⟨rfl, K, hK, hJ⟩ | ⟨rfl, hno⟩
        · refine z1 (fun x10 e10 => ⟨hv, ?_⟩)
          subst e10
          refine ⟨_, c_called hw (cT_kC hc1 k3) k8 hK hJ ?_, fun _ _ _ q => q⟩
          intro r12 c bc hcj x13 e13 x14 e14
          subst e13 e14
          rw [nI_1]
          refine ih (by omega) (kC_tr hk k3) (bs_or bw bc) (bs_set bj k8 (by decide)) (bel_up hb kw hK (fun j hj => (hcj j).mp hj)) (fun i hi => ?_) (by rw [n8_up k8 kj, hn])
          by_cases e : i = k
          · subst e
            refine ⟨by simp [kw], k8, (hb.1 i kw).2, K, hK, fun j hj => ?_⟩
            have := (hcj j).mpr hj
            simp [this]
          · rw [va_up_ne _ _ e] at hi
            obtain ⟨u1, u2⟩ := hj i hi
            exact ⟨by simp [u1], gd_mono u2 (fun j hj => by simp [hj])⟩
        · refine z0 ?_
          have hn : ¬ ∃ g, ag_set P m g := fun ⟨g, hg⟩ => by
            obtain ⟨-, -, L, l1, -⟩ := hg.2 k (hb.2.2 g hg k kw)
            exact hno L l1.1
          have := h I2 F2 (kC_tr hk k3)
          unfold AGb at this
          rw [bi_n hn] at this
          exact this
  intro x1 e1
  subst e1
  refine ⟨9, key 8 (t := 0) (w := va_up (fun _ => false) m true) (j := fun _ => false) rfl kC_rf ?_ bs_0 ⟨fun k hk => ?_, va_up_self _ _ _, fun g hg k hk => ?_⟩ (fun k hk => by cases hk) ?_⟩
  · intro i hi
    rw [b_one (by omega) hi]
    by_cases q : i = m
    · subst q
      rw [va_up_self, decide_eq_true hm, decide_eq_true rfl]; rfl
    · rw [va_up_ne _ _ q, decide_eq_false q, Bool.and_false]
  · by_cases q : k = m
    · subst q; exact ⟨hm, h1⟩
    · rw [va_up_ne _ _ q] at hk; cases hk
  · by_cases q : k = m
    · subst q; exact hg.1
    · rw [va_up_ne _ _ q] at hk; cases hk
  · have := aj_sum_c (f := fun q => (if (fun _ : Nat => false) q = true then 1 else 0 : Nat)) (c := 0) (n := 8) (fun j _ => by simp)
    unfold aj_nw
    omega
