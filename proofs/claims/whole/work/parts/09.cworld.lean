theorem tb_V {own : String} {i : Nat} {C : String} {y : MethodName} {cd : Cond} (h : cd ∈ TB) (h1 : Cond.methodLink own i y ∈ TB) (h2 : Cond.instanceMethod y ∈ TB) (h3 : Cond.selects C y y ∈ TB) (h4 : Cond.initialized C ∈ TB) : GoodIn TB (wsV own i C y (cd :: TB)) :=
  tb_app h (List.forall_mem_cons.mpr ⟨h1, List.forall_mem_cons.mpr ⟨h2, List.forall_mem_cons.mpr ⟨h3, List.forall_mem_cons.mpr ⟨h4, fun _ q => absurd q List.not_mem_nil⟩⟩⟩⟩)
theorem tb_S {own : String} {i : Nat} {y : MethodName} {cd : Cond} (h : cd ∈ TB) (h1 : Cond.methodLink own i y ∈ TB) (h2 : Cond.static y ∈ TB) (h3 : Cond.initialized y.cls ∈ TB) : GoodIn TB (va_wsS own i y (cd :: TB)) :=
  tb_app h (List.forall_mem_cons.mpr ⟨h1, List.forall_mem_cons.mpr ⟨h2, List.forall_mem_cons.mpr ⟨h3, fun _ q => absurd q List.not_mem_nil⟩⟩⟩)
/-- the world of the class: 47 cells -/
def cw (a : Nat → Nat) (cI cZ cQ : ClassId) (I : SI) (F : SF) : va_W := [(a 0, .inr (7, [.ref (a 1), .ref (a 2), .ref (a 3)])),
  (a 1, .inl (cQ, 8, .inr (.inr (.inr (.inr (fun j => some (a (23 + 3 * j)))))))),
  (a 2, .inr (2, [.ref (a 4), .ref (a 5), .ref (a 6), .ref (a 7), .ref (a 8), .ref (a 9), .int (I 0), .ref (a 10)])),
  (a 3, .inr (3, [.int (I 1), .ref (a 11), .ref (a 12), .ref (a 13), .int (I 2), .int (I 3), .int (I 4)])),
  (a 4, .inl (cI, 120, .inl (F 4))),
  (a 5, .inl (cI, 120, .inl (F 5))),
  (a 6, .inl (cI, 120, .inl (F 6))),
  (a 7, .inl (cI, 120, .inl (F 7))),
  (a 8, .inl (cI, 120, .inl (F 8))),
  (a 9, .inl (cZ, 120, .inl (F 9))),
  (a 10, .inr (6, [.int (I 5), .int (I 6), .int (I 7), .int (I 8)])),
  (a 11, .inr (0, [.int (I 9), .ref (a 14), .ref (a 15), .ref (a 16), .ref (a 17), .ref (a 18)])),
  (a 12, .inr (1, [.int (I 10), .int (I 11), .ref (a 19), .ref (a 20), .ref (a 21)])),
  (a 13, .inr (5, [.int (I 12), .ref (a 22)])),
  (a 14, .inl (cI, 50, .inl (F 14))),
  (a 15, .inl (cI, 50, .inl (F 15))),
  (a 16, .inl (cI, 50, .inl (F 16))),
  (a 17, .inl (cI, 500, .inl (F 17))),
  (a 18, .inl (cI, 750, .inl (F 18))),
  (a 19, .inl (cI, 200, .inl (F 19))),
  (a 20, .inl (cI, 200, .inl (F 20))),
  (a 21, .inl (cI, 2000, .inl (F 21))),
  (a 22, .inl (cI, 100, .inl (F 22))),
  (a 23, .inr (4, [.int (I 20), .int (I 21), .int (I 22), .int (I 23), .int (I 24), .int (I 25), .int (I 26), .ref (a 24), .ref (a 25)])),
  (a 24, .inl (cI, 120, .inl (F 24))),
  (a 25, .inl (cI, 120, .inl (F 25))),
  (a 26, .inr (4, [.int (I 30), .int (I 31), .int (I 32), .int (I 33), .int (I 34), .int (I 35), .int (I 36), .ref (a 27), .ref (a 28)])),
  (a 27, .inl (cI, 120, .inl (F 27))),
  (a 28, .inl (cI, 120, .inl (F 28))),
  (a 29, .inr (4, [.int (I 40), .int (I 41), .int (I 42), .int (I 43), .int (I 44), .int (I 45), .int (I 46), .ref (a 30), .ref (a 31)])),
  (a 30, .inl (cI, 120, .inl (F 30))),
  (a 31, .inl (cI, 120, .inl (F 31))),
  (a 32, .inr (4, [.int (I 50), .int (I 51), .int (I 52), .int (I 53), .int (I 54), .int (I 55), .int (I 56), .ref (a 33), .ref (a 34)])),
  (a 33, .inl (cI, 120, .inl (F 33))),
  (a 34, .inl (cI, 120, .inl (F 34))),
  (a 35, .inr (4, [.int (I 60), .int (I 61), .int (I 62), .int (I 63), .int (I 64), .int (I 65), .int (I 66), .ref (a 36), .ref (a 37)])),
  (a 36, .inl (cI, 120, .inl (F 36))),
  (a 37, .inl (cI, 120, .inl (F 37))),
  (a 38, .inr (4, [.int (I 70), .int (I 71), .int (I 72), .int (I 73), .int (I 74), .int (I 75), .int (I 76), .ref (a 39), .ref (a 40)])),
  (a 39, .inl (cI, 120, .inl (F 39))),
  (a 40, .inl (cI, 120, .inl (F 40))),
  (a 41, .inr (4, [.int (I 80), .int (I 81), .int (I 82), .int (I 83), .int (I 84), .int (I 85), .int (I 86), .ref (a 42), .ref (a 43)])),
  (a 42, .inl (cI, 120, .inl (F 42))),
  (a 43, .inl (cI, 120, .inl (F 43))),
  (a 44, .inr (4, [.int (I 90), .int (I 91), .int (I 92), .int (I 93), .int (I 94), .int (I 95), .int (I 96), .ref (a 45), .ref (a 46)])),
  (a 45, .inl (cI, 120, .inl (F 45))),
  (a 46, .inl (cI, 120, .inl (F 46)))]
section CW
variable {a : Nat → Nat} {cI cZ cQ : ClassId} {I : SI} {F : SF} {D : va_G} {H : Heap}
theorem cD {sz : Nat} (hJ : xJ 47 a) : va_D (xA 47 a sz) (cw a cI cZ cQ I F) := xD hJ rfl
theorem cw_0 : (cw a cI cZ cQ I F)[0]? = some (a 0, .inr (7, [.ref (a 1), .ref (a 2), .ref (a 3)])) := rfl
theorem cw_1 : (cw a cI cZ cQ I F)[1]? = some (a 1, .inl (cQ, 8, .inr (.inr (.inr (.inr (fun j => some (a (23 + 3 * j)))))))) := rfl
theorem cw_2 : (cw a cI cZ cQ I F)[2]? = some (a 2, .inr (2, [.ref (a 4), .ref (a 5), .ref (a 6), .ref (a 7), .ref (a 8), .ref (a 9), .int (I 0), .ref (a 10)])) := rfl
theorem cw_3 : (cw a cI cZ cQ I F)[3]? = some (a 3, .inr (3, [.int (I 1), .ref (a 11), .ref (a 12), .ref (a 13), .int (I 2), .int (I 3), .int (I 4)])) := rfl
theorem cw_4 : (cw a cI cZ cQ I F)[4]? = some (a 4, .inl (cI, 120, .inl (F 4))) := rfl
theorem cw_5 : (cw a cI cZ cQ I F)[5]? = some (a 5, .inl (cI, 120, .inl (F 5))) := rfl
theorem cw_6 : (cw a cI cZ cQ I F)[6]? = some (a 6, .inl (cI, 120, .inl (F 6))) := rfl
theorem cw_7 : (cw a cI cZ cQ I F)[7]? = some (a 7, .inl (cI, 120, .inl (F 7))) := rfl
theorem cw_8 : (cw a cI cZ cQ I F)[8]? = some (a 8, .inl (cI, 120, .inl (F 8))) := rfl
theorem cw_9 : (cw a cI cZ cQ I F)[9]? = some (a 9, .inl (cZ, 120, .inl (F 9))) := rfl
theorem cw_10 : (cw a cI cZ cQ I F)[10]? = some (a 10, .inr (6, [.int (I 5), .int (I 6), .int (I 7), .int (I 8)])) := rfl
theorem cw_11 : (cw a cI cZ cQ I F)[11]? = some (a 11, .inr (0, [.int (I 9), .ref (a 14), .ref (a 15), .ref (a 16), .ref (a 17), .ref (a 18)])) := rfl
theorem cw_12 : (cw a cI cZ cQ I F)[12]? = some (a 12, .inr (1, [.int (I 10), .int (I 11), .ref (a 19), .ref (a 20), .ref (a 21)])) := rfl
theorem cw_13 : (cw a cI cZ cQ I F)[13]? = some (a 13, .inr (5, [.int (I 12), .ref (a 22)])) := rfl
theorem cw_14 : (cw a cI cZ cQ I F)[14]? = some (a 14, .inl (cI, 50, .inl (F 14))) := rfl
theorem cw_15 : (cw a cI cZ cQ I F)[15]? = some (a 15, .inl (cI, 50, .inl (F 15))) := rfl
theorem cw_16 : (cw a cI cZ cQ I F)[16]? = some (a 16, .inl (cI, 50, .inl (F 16))) := rfl
theorem cw_17 : (cw a cI cZ cQ I F)[17]? = some (a 17, .inl (cI, 500, .inl (F 17))) := rfl
theorem cw_18 : (cw a cI cZ cQ I F)[18]? = some (a 18, .inl (cI, 750, .inl (F 18))) := rfl
theorem cw_19 : (cw a cI cZ cQ I F)[19]? = some (a 19, .inl (cI, 200, .inl (F 19))) := rfl
theorem cw_20 : (cw a cI cZ cQ I F)[20]? = some (a 20, .inl (cI, 200, .inl (F 20))) := rfl
theorem cw_21 : (cw a cI cZ cQ I F)[21]? = some (a 21, .inl (cI, 2000, .inl (F 21))) := rfl
theorem cw_22 : (cw a cI cZ cQ I F)[22]? = some (a 22, .inl (cI, 100, .inl (F 22))) := rfl
theorem cw_M {k : Nat} (hk : k < 8) : (cw a cI cZ cQ I F)[23 + 3 * k]? = some (a (23 + 3 * k), .inr (4, [.int (I (20 + 10 * k)), .int (I (21 + 10 * k)), .int (I (22 + 10 * k)), .int (I (23 + 10 * k)), .int (I (24 + 10 * k)), .int (I (25 + 10 * k)), .int (I (26 + 10 * k)), .ref (a (24 + 3 * k)), .ref (a (25 + 3 * k))])) := match k, hk with
  | 0, _ => rfl
  | 1, _ => rfl
  | 2, _ => rfl
  | 3, _ => rfl
  | 4, _ => rfl
  | 5, _ => rfl
  | 6, _ => rfl
  | 7, _ => rfl
  | k + 8, h => absurd h (by omega)
theorem cw_MO {k : Nat} (hk : k < 8) : (cw a cI cZ cQ I F)[24 + 3 * k]? = some (a (24 + 3 * k), .inl (cI, 120, .inl (F (24 + 3 * k)))) := match k, hk with
  | 0, _ => rfl
  | 1, _ => rfl
  | 2, _ => rfl
  | 3, _ => rfl
  | 4, _ => rfl
  | 5, _ => rfl
  | 6, _ => rfl
  | 7, _ => rfl
  | k + 8, h => absurd h (by omega)
theorem cw_MN {k : Nat} (hk : k < 8) : (cw a cI cZ cQ I F)[25 + 3 * k]? = some (a (25 + 3 * k), .inl (cI, 120, .inl (F (25 + 3 * k)))) := match k, hk with
  | 0, _ => rfl
  | 1, _ => rfl
  | 2, _ => rfl
  | 3, _ => rfl
  | 4, _ => rfl
  | 5, _ => rfl
  | 6, _ => rfl
  | 7, _ => rfl
  | k + 8, h => absurd h (by omega)
theorem cwp_0_e {v : Int32} : (cw a cI cZ cQ I F).set 2 (a 2, .inr (2, [.ref (a 4), .ref (a 5), .ref (a 6), .ref (a 7), .ref (a 8), .ref (a 9), .int (I 0), .ref (a 10)].set 6 (.int v))) = (cw a cI cZ cQ (va_up I 0 v) F) := rfl
theorem cwp_0 {v : Int32} (h : va_P D vwCl ((cw a cI cZ cQ I F).set 2 (a 2, .inr (2, [.ref (a 4), .ref (a 5), .ref (a 6), .ref (a 7), .ref (a 8), .ref (a 9), .int (I 0), .ref (a 10)].set 6 (.int v)))) H) : va_P D vwCl (cw a cI cZ cQ (va_up I 0 v) F) H := by
  rw [cwp_0_e] at h
  exact h
theorem cwp_1_e {v : Int32} : (cw a cI cZ cQ I F).set 3 (a 3, .inr (3, [.int (I 1), .ref (a 11), .ref (a 12), .ref (a 13), .int (I 2), .int (I 3), .int (I 4)].set 0 (.int v))) = (cw a cI cZ cQ (va_up I 1 v) F) := rfl
theorem cwp_1 {v : Int32} (h : va_P D vwCl ((cw a cI cZ cQ I F).set 3 (a 3, .inr (3, [.int (I 1), .ref (a 11), .ref (a 12), .ref (a 13), .int (I 2), .int (I 3), .int (I 4)].set 0 (.int v)))) H) : va_P D vwCl (cw a cI cZ cQ (va_up I 1 v) F) H := by
  rw [cwp_1_e] at h
  exact h
theorem cwp_2_e {v : Int32} : (cw a cI cZ cQ I F).set 3 (a 3, .inr (3, [.int (I 1), .ref (a 11), .ref (a 12), .ref (a 13), .int (I 2), .int (I 3), .int (I 4)].set 4 (.int v))) = (cw a cI cZ cQ (va_up I 2 v) F) := rfl
theorem cwp_2 {v : Int32} (h : va_P D vwCl ((cw a cI cZ cQ I F).set 3 (a 3, .inr (3, [.int (I 1), .ref (a 11), .ref (a 12), .ref (a 13), .int (I 2), .int (I 3), .int (I 4)].set 4 (.int v)))) H) : va_P D vwCl (cw a cI cZ cQ (va_up I 2 v) F) H := by
  rw [cwp_2_e] at h
  exact h
theorem cwp_3_e {v : Int32} : (cw a cI cZ cQ I F).set 3 (a 3, .inr (3, [.int (I 1), .ref (a 11), .ref (a 12), .ref (a 13), .int (I 2), .int (I 3), .int (I 4)].set 5 (.int v))) = (cw a cI cZ cQ (va_up I 3 v) F) := rfl
theorem cwp_3 {v : Int32} (h : va_P D vwCl ((cw a cI cZ cQ I F).set 3 (a 3, .inr (3, [.int (I 1), .ref (a 11), .ref (a 12), .ref (a 13), .int (I 2), .int (I 3), .int (I 4)].set 5 (.int v)))) H) : va_P D vwCl (cw a cI cZ cQ (va_up I 3 v) F) H := by
  rw [cwp_3_e] at h
  exact h
theorem cwp_4_e {v : Int32} : (cw a cI cZ cQ I F).set 3 (a 3, .inr (3, [.int (I 1), .ref (a 11), .ref (a 12), .ref (a 13), .int (I 2), .int (I 3), .int (I 4)].set 6 (.int v))) = (cw a cI cZ cQ (va_up I 4 v) F) := rfl
theorem cwp_4 {v : Int32} (h : va_P D vwCl ((cw a cI cZ cQ I F).set 3 (a 3, .inr (3, [.int (I 1), .ref (a 11), .ref (a 12), .ref (a 13), .int (I 2), .int (I 3), .int (I 4)].set 6 (.int v)))) H) : va_P D vwCl (cw a cI cZ cQ (va_up I 4 v) F) H := by
  rw [cwp_4_e] at h
  exact h
theorem cwp_5_e {v : Int32} : (cw a cI cZ cQ I F).set 10 (a 10, .inr (6, [.int (I 5), .int (I 6), .int (I 7), .int (I 8)].set 0 (.int v))) = (cw a cI cZ cQ (va_up I 5 v) F) := rfl
theorem cwp_5 {v : Int32} (h : va_P D vwCl ((cw a cI cZ cQ I F).set 10 (a 10, .inr (6, [.int (I 5), .int (I 6), .int (I 7), .int (I 8)].set 0 (.int v)))) H) : va_P D vwCl (cw a cI cZ cQ (va_up I 5 v) F) H := by
  rw [cwp_5_e] at h
  exact h
theorem cwp_6_e {v : Int32} : (cw a cI cZ cQ I F).set 10 (a 10, .inr (6, [.int (I 5), .int (I 6), .int (I 7), .int (I 8)].set 1 (.int v))) = (cw a cI cZ cQ (va_up I 6 v) F) := rfl
theorem cwp_6 {v : Int32} (h : va_P D vwCl ((cw a cI cZ cQ I F).set 10 (a 10, .inr (6, [.int (I 5), .int (I 6), .int (I 7), .int (I 8)].set 1 (.int v)))) H) : va_P D vwCl (cw a cI cZ cQ (va_up I 6 v) F) H := by
  rw [cwp_6_e] at h
  exact h
theorem cwp_7_e {v : Int32} : (cw a cI cZ cQ I F).set 10 (a 10, .inr (6, [.int (I 5), .int (I 6), .int (I 7), .int (I 8)].set 2 (.int v))) = (cw a cI cZ cQ (va_up I 7 v) F) := rfl
theorem cwp_7 {v : Int32} (h : va_P D vwCl ((cw a cI cZ cQ I F).set 10 (a 10, .inr (6, [.int (I 5), .int (I 6), .int (I 7), .int (I 8)].set 2 (.int v)))) H) : va_P D vwCl (cw a cI cZ cQ (va_up I 7 v) F) H := by
  rw [cwp_7_e] at h
  exact h
theorem cwp_8_e {v : Int32} : (cw a cI cZ cQ I F).set 10 (a 10, .inr (6, [.int (I 5), .int (I 6), .int (I 7), .int (I 8)].set 3 (.int v))) = (cw a cI cZ cQ (va_up I 8 v) F) := rfl
theorem cwp_8 {v : Int32} (h : va_P D vwCl ((cw a cI cZ cQ I F).set 10 (a 10, .inr (6, [.int (I 5), .int (I 6), .int (I 7), .int (I 8)].set 3 (.int v)))) H) : va_P D vwCl (cw a cI cZ cQ (va_up I 8 v) F) H := by
  rw [cwp_8_e] at h
  exact h
theorem cwp_9_e {v : Int32} : (cw a cI cZ cQ I F).set 11 (a 11, .inr (0, [.int (I 9), .ref (a 14), .ref (a 15), .ref (a 16), .ref (a 17), .ref (a 18)].set 0 (.int v))) = (cw a cI cZ cQ (va_up I 9 v) F) := rfl
theorem cwp_9 {v : Int32} (h : va_P D vwCl ((cw a cI cZ cQ I F).set 11 (a 11, .inr (0, [.int (I 9), .ref (a 14), .ref (a 15), .ref (a 16), .ref (a 17), .ref (a 18)].set 0 (.int v)))) H) : va_P D vwCl (cw a cI cZ cQ (va_up I 9 v) F) H := by
  rw [cwp_9_e] at h
  exact h
theorem cwp_10_e {v : Int32} : (cw a cI cZ cQ I F).set 12 (a 12, .inr (1, [.int (I 10), .int (I 11), .ref (a 19), .ref (a 20), .ref (a 21)].set 0 (.int v))) = (cw a cI cZ cQ (va_up I 10 v) F) := rfl
theorem cwp_10 {v : Int32} (h : va_P D vwCl ((cw a cI cZ cQ I F).set 12 (a 12, .inr (1, [.int (I 10), .int (I 11), .ref (a 19), .ref (a 20), .ref (a 21)].set 0 (.int v)))) H) : va_P D vwCl (cw a cI cZ cQ (va_up I 10 v) F) H := by
  rw [cwp_10_e] at h
  exact h
theorem cwp_11_e {v : Int32} : (cw a cI cZ cQ I F).set 12 (a 12, .inr (1, [.int (I 10), .int (I 11), .ref (a 19), .ref (a 20), .ref (a 21)].set 1 (.int v))) = (cw a cI cZ cQ (va_up I 11 v) F) := rfl
theorem cwp_11 {v : Int32} (h : va_P D vwCl ((cw a cI cZ cQ I F).set 12 (a 12, .inr (1, [.int (I 10), .int (I 11), .ref (a 19), .ref (a 20), .ref (a 21)].set 1 (.int v)))) H) : va_P D vwCl (cw a cI cZ cQ (va_up I 11 v) F) H := by
  rw [cwp_11_e] at h
  exact h
theorem cwp_12_e {v : Int32} : (cw a cI cZ cQ I F).set 13 (a 13, .inr (5, [.int (I 12), .ref (a 22)].set 0 (.int v))) = (cw a cI cZ cQ (va_up I 12 v) F) := rfl
theorem cwp_12 {v : Int32} (h : va_P D vwCl ((cw a cI cZ cQ I F).set 13 (a 13, .inr (5, [.int (I 12), .ref (a 22)].set 0 (.int v)))) H) : va_P D vwCl (cw a cI cZ cQ (va_up I 12 v) F) H := by
  rw [cwp_12_e] at h
  exact h
theorem cwp_Mthere_e {k : Nat} (hk : k < 8) {v : Int32} : (cw a cI cZ cQ I F).set (23 + 3 * k) (a (23 + 3 * k), .inr (4, [.int (I (20 + 10 * k)), .int (I (21 + 10 * k)), .int (I (22 + 10 * k)), .int (I (23 + 10 * k)), .int (I (24 + 10 * k)), .int (I (25 + 10 * k)), .int (I (26 + 10 * k)), .ref (a (24 + 3 * k)), .ref (a (25 + 3 * k))].set 0 (.int v))) = (cw a cI cZ cQ (va_up I (20 + 10 * k) v) F) := match k, hk with
  | 0, _ => rfl
  | 1, _ => rfl
  | 2, _ => rfl
  | 3, _ => rfl
  | 4, _ => rfl
  | 5, _ => rfl
  | 6, _ => rfl
  | 7, _ => rfl
  | k + 8, h => absurd h (by omega)
theorem cwp_Mthere {k : Nat} (hk : k < 8) {v : Int32} (h : va_P D vwCl ((cw a cI cZ cQ I F).set (23 + 3 * k) (a (23 + 3 * k), .inr (4, [.int (I (20 + 10 * k)), .int (I (21 + 10 * k)), .int (I (22 + 10 * k)), .int (I (23 + 10 * k)), .int (I (24 + 10 * k)), .int (I (25 + 10 * k)), .int (I (26 + 10 * k)), .ref (a (24 + 3 * k)), .ref (a (25 + 3 * k))].set 0 (.int v)))) H) : va_P D vwCl (cw a cI cZ cQ (va_up I (20 + 10 * k) v) F) H := by
  rw [cwp_Mthere_e hk] at h
  exact h
theorem cwp_Mparameters_e {k : Nat} (hk : k < 8) {v : Int32} : (cw a cI cZ cQ I F).set (23 + 3 * k) (a (23 + 3 * k), .inr (4, [.int (I (20 + 10 * k)), .int (I (21 + 10 * k)), .int (I (22 + 10 * k)), .int (I (23 + 10 * k)), .int (I (24 + 10 * k)), .int (I (25 + 10 * k)), .int (I (26 + 10 * k)), .ref (a (24 + 3 * k)), .ref (a (25 + 3 * k))].set 1 (.int v))) = (cw a cI cZ cQ (va_up I (21 + 10 * k) v) F) := match k, hk with
  | 0, _ => rfl
  | 1, _ => rfl
  | 2, _ => rfl
  | 3, _ => rfl
  | 4, _ => rfl
  | 5, _ => rfl
  | 6, _ => rfl
  | 7, _ => rfl
  | k + 8, h => absurd h (by omega)
theorem cwp_Mparameters {k : Nat} (hk : k < 8) {v : Int32} (h : va_P D vwCl ((cw a cI cZ cQ I F).set (23 + 3 * k) (a (23 + 3 * k), .inr (4, [.int (I (20 + 10 * k)), .int (I (21 + 10 * k)), .int (I (22 + 10 * k)), .int (I (23 + 10 * k)), .int (I (24 + 10 * k)), .int (I (25 + 10 * k)), .int (I (26 + 10 * k)), .ref (a (24 + 3 * k)), .ref (a (25 + 3 * k))].set 1 (.int v)))) H) : va_P D vwCl (cw a cI cZ cQ (va_up I (21 + 10 * k) v) F) H := by
  rw [cwp_Mparameters_e hk] at h
  exact h
theorem cwp_Marrays_e {k : Nat} (hk : k < 8) {v : Int32} : (cw a cI cZ cQ I F).set (23 + 3 * k) (a (23 + 3 * k), .inr (4, [.int (I (20 + 10 * k)), .int (I (21 + 10 * k)), .int (I (22 + 10 * k)), .int (I (23 + 10 * k)), .int (I (24 + 10 * k)), .int (I (25 + 10 * k)), .int (I (26 + 10 * k)), .ref (a (24 + 3 * k)), .ref (a (25 + 3 * k))].set 2 (.int v))) = (cw a cI cZ cQ (va_up I (22 + 10 * k) v) F) := match k, hk with
  | 0, _ => rfl
  | 1, _ => rfl
  | 2, _ => rfl
  | 3, _ => rfl
  | 4, _ => rfl
  | 5, _ => rfl
  | 6, _ => rfl
  | 7, _ => rfl
  | k + 8, h => absurd h (by omega)
theorem cwp_Marrays {k : Nat} (hk : k < 8) {v : Int32} (h : va_P D vwCl ((cw a cI cZ cQ I F).set (23 + 3 * k) (a (23 + 3 * k), .inr (4, [.int (I (20 + 10 * k)), .int (I (21 + 10 * k)), .int (I (22 + 10 * k)), .int (I (23 + 10 * k)), .int (I (24 + 10 * k)), .int (I (25 + 10 * k)), .int (I (26 + 10 * k)), .ref (a (24 + 3 * k)), .ref (a (25 + 3 * k))].set 2 (.int v)))) H) : va_P D vwCl (cw a cI cZ cQ (va_up I (22 + 10 * k) v) F) H := by
  rw [cwp_Marrays_e hk] at h
  exact h
theorem cwp_Mreturns_e {k : Nat} (hk : k < 8) {v : Int32} : (cw a cI cZ cQ I F).set (23 + 3 * k) (a (23 + 3 * k), .inr (4, [.int (I (20 + 10 * k)), .int (I (21 + 10 * k)), .int (I (22 + 10 * k)), .int (I (23 + 10 * k)), .int (I (24 + 10 * k)), .int (I (25 + 10 * k)), .int (I (26 + 10 * k)), .ref (a (24 + 3 * k)), .ref (a (25 + 3 * k))].set 3 (.int v))) = (cw a cI cZ cQ (va_up I (23 + 10 * k) v) F) := match k, hk with
  | 0, _ => rfl
  | 1, _ => rfl
  | 2, _ => rfl
  | 3, _ => rfl
  | 4, _ => rfl
  | 5, _ => rfl
  | 6, _ => rfl
  | 7, _ => rfl
  | k + 8, h => absurd h (by omega)
theorem cwp_Mreturns {k : Nat} (hk : k < 8) {v : Int32} (h : va_P D vwCl ((cw a cI cZ cQ I F).set (23 + 3 * k) (a (23 + 3 * k), .inr (4, [.int (I (20 + 10 * k)), .int (I (21 + 10 * k)), .int (I (22 + 10 * k)), .int (I (23 + 10 * k)), .int (I (24 + 10 * k)), .int (I (25 + 10 * k)), .int (I (26 + 10 * k)), .ref (a (24 + 3 * k)), .ref (a (25 + 3 * k))].set 3 (.int v)))) H) : va_P D vwCl (cw a cI cZ cQ (va_up I (23 + 10 * k) v) F) H := by
  rw [cwp_Mreturns_e hk] at h
  exact h
theorem cwp_Mlocals_e {k : Nat} (hk : k < 8) {v : Int32} : (cw a cI cZ cQ I F).set (23 + 3 * k) (a (23 + 3 * k), .inr (4, [.int (I (20 + 10 * k)), .int (I (21 + 10 * k)), .int (I (22 + 10 * k)), .int (I (23 + 10 * k)), .int (I (24 + 10 * k)), .int (I (25 + 10 * k)), .int (I (26 + 10 * k)), .ref (a (24 + 3 * k)), .ref (a (25 + 3 * k))].set 4 (.int v))) = (cw a cI cZ cQ (va_up I (24 + 10 * k) v) F) := match k, hk with
  | 0, _ => rfl
  | 1, _ => rfl
  | 2, _ => rfl
  | 3, _ => rfl
  | 4, _ => rfl
  | 5, _ => rfl
  | 6, _ => rfl
  | 7, _ => rfl
  | k + 8, h => absurd h (by omega)
theorem cwp_Mlocals {k : Nat} (hk : k < 8) {v : Int32} (h : va_P D vwCl ((cw a cI cZ cQ I F).set (23 + 3 * k) (a (23 + 3 * k), .inr (4, [.int (I (20 + 10 * k)), .int (I (21 + 10 * k)), .int (I (22 + 10 * k)), .int (I (23 + 10 * k)), .int (I (24 + 10 * k)), .int (I (25 + 10 * k)), .int (I (26 + 10 * k)), .ref (a (24 + 3 * k)), .ref (a (25 + 3 * k))].set 4 (.int v)))) H) : va_P D vwCl (cw a cI cZ cQ (va_up I (24 + 10 * k) v) F) H := by
  rw [cwp_Mlocals_e hk] at h
  exact h
theorem cwp_Mlimit_e {k : Nat} (hk : k < 8) {v : Int32} : (cw a cI cZ cQ I F).set (23 + 3 * k) (a (23 + 3 * k), .inr (4, [.int (I (20 + 10 * k)), .int (I (21 + 10 * k)), .int (I (22 + 10 * k)), .int (I (23 + 10 * k)), .int (I (24 + 10 * k)), .int (I (25 + 10 * k)), .int (I (26 + 10 * k)), .ref (a (24 + 3 * k)), .ref (a (25 + 3 * k))].set 5 (.int v))) = (cw a cI cZ cQ (va_up I (25 + 10 * k) v) F) := match k, hk with
  | 0, _ => rfl
  | 1, _ => rfl
  | 2, _ => rfl
  | 3, _ => rfl
  | 4, _ => rfl
  | 5, _ => rfl
  | 6, _ => rfl
  | 7, _ => rfl
  | k + 8, h => absurd h (by omega)
theorem cwp_Mlimit {k : Nat} (hk : k < 8) {v : Int32} (h : va_P D vwCl ((cw a cI cZ cQ I F).set (23 + 3 * k) (a (23 + 3 * k), .inr (4, [.int (I (20 + 10 * k)), .int (I (21 + 10 * k)), .int (I (22 + 10 * k)), .int (I (23 + 10 * k)), .int (I (24 + 10 * k)), .int (I (25 + 10 * k)), .int (I (26 + 10 * k)), .ref (a (24 + 3 * k)), .ref (a (25 + 3 * k))].set 5 (.int v)))) H) : va_P D vwCl (cw a cI cZ cQ (va_up I (25 + 10 * k) v) F) H := by
  rw [cwp_Mlimit_e hk] at h
  exact h
theorem cwp_Msize_e {k : Nat} (hk : k < 8) {v : Int32} : (cw a cI cZ cQ I F).set (23 + 3 * k) (a (23 + 3 * k), .inr (4, [.int (I (20 + 10 * k)), .int (I (21 + 10 * k)), .int (I (22 + 10 * k)), .int (I (23 + 10 * k)), .int (I (24 + 10 * k)), .int (I (25 + 10 * k)), .int (I (26 + 10 * k)), .ref (a (24 + 3 * k)), .ref (a (25 + 3 * k))].set 6 (.int v))) = (cw a cI cZ cQ (va_up I (26 + 10 * k) v) F) := match k, hk with
  | 0, _ => rfl
  | 1, _ => rfl
  | 2, _ => rfl
  | 3, _ => rfl
  | 4, _ => rfl
  | 5, _ => rfl
  | 6, _ => rfl
  | 7, _ => rfl
  | k + 8, h => absurd h (by omega)
theorem cwp_Msize {k : Nat} (hk : k < 8) {v : Int32} (h : va_P D vwCl ((cw a cI cZ cQ I F).set (23 + 3 * k) (a (23 + 3 * k), .inr (4, [.int (I (20 + 10 * k)), .int (I (21 + 10 * k)), .int (I (22 + 10 * k)), .int (I (23 + 10 * k)), .int (I (24 + 10 * k)), .int (I (25 + 10 * k)), .int (I (26 + 10 * k)), .ref (a (24 + 3 * k)), .ref (a (25 + 3 * k))].set 6 (.int v)))) H) : va_P D vwCl (cw a cI cZ cQ (va_up I (26 + 10 * k) v) F) H := by
  rw [cwp_Msize_e hk] at h
  exact h
theorem cwa_4_e {v : Nat → Int32} : (cw a cI cZ cQ I F).set 4 (a 4, .inl (cI, 120, .inl (v))) = (cw a cI cZ cQ I (va_up F 4 v)) := rfl
theorem cwa_4 {v : Nat → Int32} (h : va_P D vwCl ((cw a cI cZ cQ I F).set 4 (a 4, .inl (cI, 120, .inl (v)))) H) : va_P D vwCl (cw a cI cZ cQ I (va_up F 4 v)) H := by
  rw [cwa_4_e] at h
  exact h
theorem cwa_5_e {v : Nat → Int32} : (cw a cI cZ cQ I F).set 5 (a 5, .inl (cI, 120, .inl (v))) = (cw a cI cZ cQ I (va_up F 5 v)) := rfl
theorem cwa_5 {v : Nat → Int32} (h : va_P D vwCl ((cw a cI cZ cQ I F).set 5 (a 5, .inl (cI, 120, .inl (v)))) H) : va_P D vwCl (cw a cI cZ cQ I (va_up F 5 v)) H := by
  rw [cwa_5_e] at h
  exact h
theorem cwa_6_e {v : Nat → Int32} : (cw a cI cZ cQ I F).set 6 (a 6, .inl (cI, 120, .inl (v))) = (cw a cI cZ cQ I (va_up F 6 v)) := rfl
theorem cwa_6 {v : Nat → Int32} (h : va_P D vwCl ((cw a cI cZ cQ I F).set 6 (a 6, .inl (cI, 120, .inl (v)))) H) : va_P D vwCl (cw a cI cZ cQ I (va_up F 6 v)) H := by
  rw [cwa_6_e] at h
  exact h
theorem cwa_7_e {v : Nat → Int32} : (cw a cI cZ cQ I F).set 7 (a 7, .inl (cI, 120, .inl (v))) = (cw a cI cZ cQ I (va_up F 7 v)) := rfl
theorem cwa_7 {v : Nat → Int32} (h : va_P D vwCl ((cw a cI cZ cQ I F).set 7 (a 7, .inl (cI, 120, .inl (v)))) H) : va_P D vwCl (cw a cI cZ cQ I (va_up F 7 v)) H := by
  rw [cwa_7_e] at h
  exact h
theorem cwa_8_e {v : Nat → Int32} : (cw a cI cZ cQ I F).set 8 (a 8, .inl (cI, 120, .inl (v))) = (cw a cI cZ cQ I (va_up F 8 v)) := rfl
theorem cwa_8 {v : Nat → Int32} (h : va_P D vwCl ((cw a cI cZ cQ I F).set 8 (a 8, .inl (cI, 120, .inl (v)))) H) : va_P D vwCl (cw a cI cZ cQ I (va_up F 8 v)) H := by
  rw [cwa_8_e] at h
  exact h
theorem cwa_9_e {v : Nat → Int32} : (cw a cI cZ cQ I F).set 9 (a 9, .inl (cZ, 120, .inl (v))) = (cw a cI cZ cQ I (va_up F 9 v)) := rfl
theorem cwa_9 {v : Nat → Int32} (h : va_P D vwCl ((cw a cI cZ cQ I F).set 9 (a 9, .inl (cZ, 120, .inl (v)))) H) : va_P D vwCl (cw a cI cZ cQ I (va_up F 9 v)) H := by
  rw [cwa_9_e] at h
  exact h
theorem cwa_14_e {v : Nat → Int32} : (cw a cI cZ cQ I F).set 14 (a 14, .inl (cI, 50, .inl (v))) = (cw a cI cZ cQ I (va_up F 14 v)) := rfl
theorem cwa_14 {v : Nat → Int32} (h : va_P D vwCl ((cw a cI cZ cQ I F).set 14 (a 14, .inl (cI, 50, .inl (v)))) H) : va_P D vwCl (cw a cI cZ cQ I (va_up F 14 v)) H := by
  rw [cwa_14_e] at h
  exact h
theorem cwa_15_e {v : Nat → Int32} : (cw a cI cZ cQ I F).set 15 (a 15, .inl (cI, 50, .inl (v))) = (cw a cI cZ cQ I (va_up F 15 v)) := rfl
theorem cwa_15 {v : Nat → Int32} (h : va_P D vwCl ((cw a cI cZ cQ I F).set 15 (a 15, .inl (cI, 50, .inl (v)))) H) : va_P D vwCl (cw a cI cZ cQ I (va_up F 15 v)) H := by
  rw [cwa_15_e] at h
  exact h
theorem cwa_16_e {v : Nat → Int32} : (cw a cI cZ cQ I F).set 16 (a 16, .inl (cI, 50, .inl (v))) = (cw a cI cZ cQ I (va_up F 16 v)) := rfl
theorem cwa_16 {v : Nat → Int32} (h : va_P D vwCl ((cw a cI cZ cQ I F).set 16 (a 16, .inl (cI, 50, .inl (v)))) H) : va_P D vwCl (cw a cI cZ cQ I (va_up F 16 v)) H := by
  rw [cwa_16_e] at h
  exact h
theorem cwa_17_e {v : Nat → Int32} : (cw a cI cZ cQ I F).set 17 (a 17, .inl (cI, 500, .inl (v))) = (cw a cI cZ cQ I (va_up F 17 v)) := rfl
theorem cwa_17 {v : Nat → Int32} (h : va_P D vwCl ((cw a cI cZ cQ I F).set 17 (a 17, .inl (cI, 500, .inl (v)))) H) : va_P D vwCl (cw a cI cZ cQ I (va_up F 17 v)) H := by
  rw [cwa_17_e] at h
  exact h
theorem cwa_18_e {v : Nat → Int32} : (cw a cI cZ cQ I F).set 18 (a 18, .inl (cI, 750, .inl (v))) = (cw a cI cZ cQ I (va_up F 18 v)) := rfl
theorem cwa_18 {v : Nat → Int32} (h : va_P D vwCl ((cw a cI cZ cQ I F).set 18 (a 18, .inl (cI, 750, .inl (v)))) H) : va_P D vwCl (cw a cI cZ cQ I (va_up F 18 v)) H := by
  rw [cwa_18_e] at h
  exact h
theorem cwa_19_e {v : Nat → Int32} : (cw a cI cZ cQ I F).set 19 (a 19, .inl (cI, 200, .inl (v))) = (cw a cI cZ cQ I (va_up F 19 v)) := rfl
theorem cwa_19 {v : Nat → Int32} (h : va_P D vwCl ((cw a cI cZ cQ I F).set 19 (a 19, .inl (cI, 200, .inl (v)))) H) : va_P D vwCl (cw a cI cZ cQ I (va_up F 19 v)) H := by
  rw [cwa_19_e] at h
  exact h
theorem cwa_20_e {v : Nat → Int32} : (cw a cI cZ cQ I F).set 20 (a 20, .inl (cI, 200, .inl (v))) = (cw a cI cZ cQ I (va_up F 20 v)) := rfl
theorem cwa_20 {v : Nat → Int32} (h : va_P D vwCl ((cw a cI cZ cQ I F).set 20 (a 20, .inl (cI, 200, .inl (v)))) H) : va_P D vwCl (cw a cI cZ cQ I (va_up F 20 v)) H := by
  rw [cwa_20_e] at h
  exact h
theorem cwa_21_e {v : Nat → Int32} : (cw a cI cZ cQ I F).set 21 (a 21, .inl (cI, 2000, .inl (v))) = (cw a cI cZ cQ I (va_up F 21 v)) := rfl
theorem cwa_21 {v : Nat → Int32} (h : va_P D vwCl ((cw a cI cZ cQ I F).set 21 (a 21, .inl (cI, 2000, .inl (v)))) H) : va_P D vwCl (cw a cI cZ cQ I (va_up F 21 v)) H := by
  rw [cwa_21_e] at h
  exact h
theorem cwa_22_e {v : Nat → Int32} : (cw a cI cZ cQ I F).set 22 (a 22, .inl (cI, 100, .inl (v))) = (cw a cI cZ cQ I (va_up F 22 v)) := rfl
theorem cwa_22 {v : Nat → Int32} (h : va_P D vwCl ((cw a cI cZ cQ I F).set 22 (a 22, .inl (cI, 100, .inl (v)))) H) : va_P D vwCl (cw a cI cZ cQ I (va_up F 22 v)) H := by
  rw [cwa_22_e] at h
  exact h
theorem cwa_MO_e {k : Nat} (hk : k < 8) {v : Nat → Int32} : (cw a cI cZ cQ I F).set (24 + 3 * k) (a (24 + 3 * k), .inl (cI, 120, .inl (v))) = (cw a cI cZ cQ I (va_up F (24 + 3 * k) v)) := match k, hk with
  | 0, _ => rfl
  | 1, _ => rfl
  | 2, _ => rfl
  | 3, _ => rfl
  | 4, _ => rfl
  | 5, _ => rfl
  | 6, _ => rfl
  | 7, _ => rfl
  | k + 8, h => absurd h (by omega)
theorem cwa_MO {k : Nat} (hk : k < 8) {v : Nat → Int32} (h : va_P D vwCl ((cw a cI cZ cQ I F).set (24 + 3 * k) (a (24 + 3 * k), .inl (cI, 120, .inl (v)))) H) : va_P D vwCl (cw a cI cZ cQ I (va_up F (24 + 3 * k) v)) H := by
  rw [cwa_MO_e hk] at h
  exact h
theorem cwa_MN_e {k : Nat} (hk : k < 8) {v : Nat → Int32} : (cw a cI cZ cQ I F).set (25 + 3 * k) (a (25 + 3 * k), .inl (cI, 120, .inl (v))) = (cw a cI cZ cQ I (va_up F (25 + 3 * k) v)) := match k, hk with
  | 0, _ => rfl
  | 1, _ => rfl
  | 2, _ => rfl
  | 3, _ => rfl
  | 4, _ => rfl
  | 5, _ => rfl
  | 6, _ => rfl
  | 7, _ => rfl
  | k + 8, h => absurd h (by omega)
theorem cwa_MN {k : Nat} (hk : k < 8) {v : Nat → Int32} (h : va_P D vwCl ((cw a cI cZ cQ I F).set (25 + 3 * k) (a (25 + 3 * k), .inl (cI, 120, .inl (v)))) H) : va_P D vwCl (cw a cI cZ cQ I (va_up F (25 + 3 * k) v)) H := by
  rw [cwa_MN_e hk] at h
  exact h
end CW
/-- calls to a private method of the nest -/
def nwl : List (String × Nat × MethodName × String) := [("CodeJudge$Method", 45, ⟨"CodeJudge", "isBelow", "(II)Z"⟩, "CodeJudge"), ("CodeJudge$Judge", 101, ⟨"CodeJudge", "isBelow", "(II)Z"⟩, "CodeJudge"), ("CodeJudge$Frames", 39, ⟨"CodeJudge", "isBelow", "(II)Z"⟩, "CodeJudge"), ("CodeJudge$Machine", 94, ⟨"CodeJudge", "isBelow", "(II)Z"⟩, "CodeJudge"), ("CodeJudge$Heap", 32, ⟨"CodeJudge", "isBelow", "(II)Z"⟩, "CodeJudge"), ("CodeJudge$Outputs", 23, ⟨"CodeJudge", "isBelow", "(II)Z"⟩, "CodeJudge")]
def nw (U : State) : Prop := ∀ q ∈ nwl, va_Nw (.methodLinkNest q.1 q.2.1 q.2.2.1 q.2.2.2) U
theorem nw_warm {s U : State} (hW : s.WarmedH U.vm) (h : nw s) : nw U := fun q hq => va_Nw.warmM hW (h q hq)
theorem nw_same {s U : State} (hv : s.vm = U.vm) (h : nw s) : nw U := fun q hq => va_Nw.same rfl hv (h q hq)
/-- what a contract starts from -/
def cP (D : va_G) (a : Nat → Nat) (cI cZ cQ : ClassId) (I : SI) (F : SF) (sz : Nat) (U : State) : Prop := U.heap.size = sz ∧ va_P D vwCl (cw a cI cZ cQ I F) U.heap ∧ va_K D vwCl [(cI, .int), (cZ, .boolean), (cQ, .object "CodeJudge$Method")] U ∧ nw U
theorem cP_bl {D : va_G} {a : Nat → Nat} {cI cZ cQ : ClassId} {I : SI} {F : SF} {sz : Nat} {av : List Value} : FrameBlind (va_Pc av (cP D a cI cZ cQ I F sz)) := fun x U g mk q => by
  obtain ⟨q0, q1, q2, q3, q4⟩ := q
  exact ⟨q0, q1, q2, va_K.moved (u := U) (U := U.calling g mk x) (Vm.Alike.refl U.vm) q3, nw_same (s := U) (U := U.calling g mk x) rfl q4⟩
theorem cP_at {D : va_G} {a : Nat → Nat} {cI cZ cQ : ClassId} {I : SI} {F : SF} {av : List Value} {s : State} {H : Heap} (hP : va_P D vwCl (cw a cI cZ cQ I F) H) (hK : va_K D vwCl [(cI, .int), (cZ, .boolean), (cQ, .object "CodeJudge$Method")] s) (hN : nw s) : ∀ U : State, U.heap = H → s.WarmedH U.vm → va_Pc av (cP D a cI cZ cQ I F H.size) av.toArray U := fun U hU hW => ⟨rfl, by rw [hU], by rw [hU]; exact hP, va_K.moved hW.alike hK, nw_warm hW hN⟩
section Xcw
variable {p : Program} {l : Launch} {e : Env} {R : Room} {s : State} {m : MethodId} {args : Array Value} {below : List Frame} {meth : Method} {c : Code} {H : Heap} {locs : List Loc} {cells slots : Nat} {Q : State → Prop}
variable {pc : Nat} {ls : Array Slot} {rest st0 : List Value} {av : Array Value} {H0 : Heap} {D : va_G} {a : Nat → Nat} {cI cZ cQ : ClassId}
theorem cc_i {P1 : Int32 → SI → SF → Prop} (hr : va_Run p l e R s m args below meth c H locs cells slots 0 0 (F0 m pc ls st0) rest (va_Qi (fun r (u : SI × SF) => P1 r u.1 u.2) (fun u t => va_P D vwCl (cw a cI cZ cQ u.1 u.2) t.heap) (xA 47 a H.size) av) (xA 47 a H.size)) (hS : va_S (xA 47 a H0.size) H0 H locs)
    (kk : ∀ (r : Int32) (I : SI) (F : SF) (H1 : Heap) (locs1 : List Loc), va_P D vwCl (cw a cI cZ cQ I F) H1 → P1 r I F → va_S (xA 47 a H0.size) H0 H1 locs1 → W p l e R s m args below meth c H1 locs1 cells slots Q (F0 m (pc + 3) ls (.int r :: rest))) : W p l e R s m args below meth c H locs cells slots Q (F0 m pc ls st0) :=
  va_calli hr hS (fun q _ h => xA_up h hS.1) (fun q h => xA_up h hS.1) (fun r u t H1 locs1 ht _ hp hb _ _ hS1 => kk r u.1 u.2 H1 locs1 (by rw [← ht]; exact hb) hp hS1)
theorem cc_v {P1 : SI → SF → Prop} (hr : va_Run p l e R s m args below meth c H locs cells slots 0 0 (F0 m pc ls st0) rest (va_Qv (fun (u : SI × SF) => P1 u.1 u.2) (fun u t => va_P D vwCl (cw a cI cZ cQ u.1 u.2) t.heap) (xA 47 a H.size) av) (xA 47 a H.size)) (hS : va_S (xA 47 a H0.size) H0 H locs)
    (kk : ∀ (I : SI) (F : SF) (H1 : Heap) (locs1 : List Loc), va_P D vwCl (cw a cI cZ cQ I F) H1 → P1 I F → va_S (xA 47 a H0.size) H0 H1 locs1 → W p l e R s m args below meth c H1 locs1 cells slots Q (F0 m (pc + 3) ls rest)) : W p l e R s m args below meth c H locs cells slots Q (F0 m pc ls st0) :=
  va_callv hr hS (fun q _ h => xA_up h hS.1) (fun q h => xA_up h hS.1) (fun u t H1 locs1 ht _ hp hb _ _ hS1 => kk u.1 u.2 H1 locs1 (by rw [← ht]; exact hb) hp hS1)
end Xcw
