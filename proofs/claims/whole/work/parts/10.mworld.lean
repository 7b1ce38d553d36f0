/-- the world of the reference: 26 cells -/
def mw (a : Nat → Nat) (cI cZ : ClassId) (I : SI) (F : SF) : va_W := [(a 0, .inr (8, [.int (I 0), .ref (a 1), .ref (a 2), .ref (a 3), .ref (a 4), .ref (a 5), .ref (a 6), .ref (a 7), .ref (a 8), .ref (a 9), .int (I 1), .ref (a 10), .ref (a 11), .ref (a 12), .ref (a 13), .int (I 2), .int (I 3), .ref (a 14), .ref (a 15), .ref (a 16), .int (I 4), .int (I 5), .ref (a 17), .ref (a 18), .ref (a 19), .ref (a 20), .ref (a 21), .int (I 6), .int (I 7), .int (I 8), .int (I 9), .int (I 10), .ref (a 22), .ref (a 23), .ref (a 24), .int (I 11), .ref (a 25)])),
  (a 1, .inl (cZ, 8, .inl (F 1))),
  (a 2, .inl (cI, 8, .inl (F 2))),
  (a 3, .inl (cI, 8, .inl (F 3))),
  (a 4, .inl (cI, 8, .inl (F 4))),
  (a 5, .inl (cI, 8, .inl (F 5))),
  (a 6, .inl (cI, 8, .inl (F 6))),
  (a 7, .inl (cI, 8, .inl (F 7))),
  (a 8, .inl (cI, 960, .inl (F 8))),
  (a 9, .inl (cI, 960, .inl (F 9))),
  (a 10, .inl (cI, 120, .inl (F 10))),
  (a 11, .inl (cI, 1920, .inl (F 11))),
  (a 12, .inl (cI, 1200, .inl (F 12))),
  (a 13, .inl (cZ, 120, .inl (F 13))),
  (a 14, .inl (cI, 32, .inl (F 14))),
  (a 15, .inl (cI, 10, .inl (F 15))),
  (a 16, .inl (cZ, 8, .inl (F 16))),
  (a 17, .inl (cI, 50, .inl (F 17))),
  (a 18, .inl (cI, 50, .inl (F 18))),
  (a 19, .inl (cI, 50, .inl (F 19))),
  (a 20, .inl (cI, 800, .inl (F 20))),
  (a 21, .inl (cI, 500, .inl (F 21))),
  (a 22, .inl (cI, 201, .inl (F 22))),
  (a 23, .inl (cI, 201, .inl (F 23))),
  (a 24, .inl (cI, 2000, .inl (F 24))),
  (a 25, .inl (cI, 100, .inl (F 25)))]
section MW
variable {a : Nat → Nat} {cI cZ : ClassId} {I : SI} {F : SF} {D : va_G} {H : Heap}
theorem mD {sz : Nat} (hJ : xJ 26 a) : va_D (xA 26 a sz) (mw a cI cZ I F) := xD hJ rfl
theorem mw_0 : (mw a cI cZ I F)[0]? = some (a 0, .inr (8, [.int (I 0), .ref (a 1), .ref (a 2), .ref (a 3), .ref (a 4), .ref (a 5), .ref (a 6), .ref (a 7), .ref (a 8), .ref (a 9), .int (I 1), .ref (a 10), .ref (a 11), .ref (a 12), .ref (a 13), .int (I 2), .int (I 3), .ref (a 14), .ref (a 15), .ref (a 16), .int (I 4), .int (I 5), .ref (a 17), .ref (a 18), .ref (a 19), .ref (a 20), .ref (a 21), .int (I 6), .int (I 7), .int (I 8), .int (I 9), .int (I 10), .ref (a 22), .ref (a 23), .ref (a 24), .int (I 11), .ref (a 25)])) := rfl
theorem mw_1 : (mw a cI cZ I F)[1]? = some (a 1, .inl (cZ, 8, .inl (F 1))) := rfl
theorem mw_2 : (mw a cI cZ I F)[2]? = some (a 2, .inl (cI, 8, .inl (F 2))) := rfl
theorem mw_3 : (mw a cI cZ I F)[3]? = some (a 3, .inl (cI, 8, .inl (F 3))) := rfl
theorem mw_4 : (mw a cI cZ I F)[4]? = some (a 4, .inl (cI, 8, .inl (F 4))) := rfl
theorem mw_5 : (mw a cI cZ I F)[5]? = some (a 5, .inl (cI, 8, .inl (F 5))) := rfl
theorem mw_6 : (mw a cI cZ I F)[6]? = some (a 6, .inl (cI, 8, .inl (F 6))) := rfl
theorem mw_7 : (mw a cI cZ I F)[7]? = some (a 7, .inl (cI, 8, .inl (F 7))) := rfl
theorem mw_8 : (mw a cI cZ I F)[8]? = some (a 8, .inl (cI, 960, .inl (F 8))) := rfl
theorem mw_9 : (mw a cI cZ I F)[9]? = some (a 9, .inl (cI, 960, .inl (F 9))) := rfl
theorem mw_10 : (mw a cI cZ I F)[10]? = some (a 10, .inl (cI, 120, .inl (F 10))) := rfl
theorem mw_11 : (mw a cI cZ I F)[11]? = some (a 11, .inl (cI, 1920, .inl (F 11))) := rfl
theorem mw_12 : (mw a cI cZ I F)[12]? = some (a 12, .inl (cI, 1200, .inl (F 12))) := rfl
theorem mw_13 : (mw a cI cZ I F)[13]? = some (a 13, .inl (cZ, 120, .inl (F 13))) := rfl
theorem mw_14 : (mw a cI cZ I F)[14]? = some (a 14, .inl (cI, 32, .inl (F 14))) := rfl
theorem mw_15 : (mw a cI cZ I F)[15]? = some (a 15, .inl (cI, 10, .inl (F 15))) := rfl
theorem mw_16 : (mw a cI cZ I F)[16]? = some (a 16, .inl (cZ, 8, .inl (F 16))) := rfl
theorem mw_17 : (mw a cI cZ I F)[17]? = some (a 17, .inl (cI, 50, .inl (F 17))) := rfl
theorem mw_18 : (mw a cI cZ I F)[18]? = some (a 18, .inl (cI, 50, .inl (F 18))) := rfl
theorem mw_19 : (mw a cI cZ I F)[19]? = some (a 19, .inl (cI, 50, .inl (F 19))) := rfl
theorem mw_20 : (mw a cI cZ I F)[20]? = some (a 20, .inl (cI, 800, .inl (F 20))) := rfl
theorem mw_21 : (mw a cI cZ I F)[21]? = some (a 21, .inl (cI, 500, .inl (F 21))) := rfl
theorem mw_22 : (mw a cI cZ I F)[22]? = some (a 22, .inl (cI, 201, .inl (F 22))) := rfl
theorem mw_23 : (mw a cI cZ I F)[23]? = some (a 23, .inl (cI, 201, .inl (F 23))) := rfl
theorem mw_24 : (mw a cI cZ I F)[24]? = some (a 24, .inl (cI, 2000, .inl (F 24))) := rfl
theorem mw_25 : (mw a cI cZ I F)[25]? = some (a 25, .inl (cI, 100, .inl (F 25))) := rfl
theorem mwp_0_e {v : Int32} : (mw a cI cZ I F).set 0 (a 0, .inr (8, [.int (I 0), .ref (a 1), .ref (a 2), .ref (a 3), .ref (a 4), .ref (a 5), .ref (a 6), .ref (a 7), .ref (a 8), .ref (a 9), .int (I 1), .ref (a 10), .ref (a 11), .ref (a 12), .ref (a 13), .int (I 2), .int (I 3), .ref (a 14), .ref (a 15), .ref (a 16), .int (I 4), .int (I 5), .ref (a 17), .ref (a 18), .ref (a 19), .ref (a 20), .ref (a 21), .int (I 6), .int (I 7), .int (I 8), .int (I 9), .int (I 10), .ref (a 22), .ref (a 23), .ref (a 24), .int (I 11), .ref (a 25)].set 0 (.int v))) = (mw a cI cZ (va_up I 0 v) F) := rfl
theorem mwp_0 {v : Int32} (h : va_P D vwCl ((mw a cI cZ I F).set 0 (a 0, .inr (8, [.int (I 0), .ref (a 1), .ref (a 2), .ref (a 3), .ref (a 4), .ref (a 5), .ref (a 6), .ref (a 7), .ref (a 8), .ref (a 9), .int (I 1), .ref (a 10), .ref (a 11), .ref (a 12), .ref (a 13), .int (I 2), .int (I 3), .ref (a 14), .ref (a 15), .ref (a 16), .int (I 4), .int (I 5), .ref (a 17), .ref (a 18), .ref (a 19), .ref (a 20), .ref (a 21), .int (I 6), .int (I 7), .int (I 8), .int (I 9), .int (I 10), .ref (a 22), .ref (a 23), .ref (a 24), .int (I 11), .ref (a 25)].set 0 (.int v)))) H) : va_P D vwCl (mw a cI cZ (va_up I 0 v) F) H := by
  rw [mwp_0_e] at h
  exact h
theorem mwp_1_e {v : Int32} : (mw a cI cZ I F).set 0 (a 0, .inr (8, [.int (I 0), .ref (a 1), .ref (a 2), .ref (a 3), .ref (a 4), .ref (a 5), .ref (a 6), .ref (a 7), .ref (a 8), .ref (a 9), .int (I 1), .ref (a 10), .ref (a 11), .ref (a 12), .ref (a 13), .int (I 2), .int (I 3), .ref (a 14), .ref (a 15), .ref (a 16), .int (I 4), .int (I 5), .ref (a 17), .ref (a 18), .ref (a 19), .ref (a 20), .ref (a 21), .int (I 6), .int (I 7), .int (I 8), .int (I 9), .int (I 10), .ref (a 22), .ref (a 23), .ref (a 24), .int (I 11), .ref (a 25)].set 10 (.int v))) = (mw a cI cZ (va_up I 1 v) F) := rfl
theorem mwp_1 {v : Int32} (h : va_P D vwCl ((mw a cI cZ I F).set 0 (a 0, .inr (8, [.int (I 0), .ref (a 1), .ref (a 2), .ref (a 3), .ref (a 4), .ref (a 5), .ref (a 6), .ref (a 7), .ref (a 8), .ref (a 9), .int (I 1), .ref (a 10), .ref (a 11), .ref (a 12), .ref (a 13), .int (I 2), .int (I 3), .ref (a 14), .ref (a 15), .ref (a 16), .int (I 4), .int (I 5), .ref (a 17), .ref (a 18), .ref (a 19), .ref (a 20), .ref (a 21), .int (I 6), .int (I 7), .int (I 8), .int (I 9), .int (I 10), .ref (a 22), .ref (a 23), .ref (a 24), .int (I 11), .ref (a 25)].set 10 (.int v)))) H) : va_P D vwCl (mw a cI cZ (va_up I 1 v) F) H := by
  rw [mwp_1_e] at h
  exact h
theorem mwp_2_e {v : Int32} : (mw a cI cZ I F).set 0 (a 0, .inr (8, [.int (I 0), .ref (a 1), .ref (a 2), .ref (a 3), .ref (a 4), .ref (a 5), .ref (a 6), .ref (a 7), .ref (a 8), .ref (a 9), .int (I 1), .ref (a 10), .ref (a 11), .ref (a 12), .ref (a 13), .int (I 2), .int (I 3), .ref (a 14), .ref (a 15), .ref (a 16), .int (I 4), .int (I 5), .ref (a 17), .ref (a 18), .ref (a 19), .ref (a 20), .ref (a 21), .int (I 6), .int (I 7), .int (I 8), .int (I 9), .int (I 10), .ref (a 22), .ref (a 23), .ref (a 24), .int (I 11), .ref (a 25)].set 15 (.int v))) = (mw a cI cZ (va_up I 2 v) F) := rfl
theorem mwp_2 {v : Int32} (h : va_P D vwCl ((mw a cI cZ I F).set 0 (a 0, .inr (8, [.int (I 0), .ref (a 1), .ref (a 2), .ref (a 3), .ref (a 4), .ref (a 5), .ref (a 6), .ref (a 7), .ref (a 8), .ref (a 9), .int (I 1), .ref (a 10), .ref (a 11), .ref (a 12), .ref (a 13), .int (I 2), .int (I 3), .ref (a 14), .ref (a 15), .ref (a 16), .int (I 4), .int (I 5), .ref (a 17), .ref (a 18), .ref (a 19), .ref (a 20), .ref (a 21), .int (I 6), .int (I 7), .int (I 8), .int (I 9), .int (I 10), .ref (a 22), .ref (a 23), .ref (a 24), .int (I 11), .ref (a 25)].set 15 (.int v)))) H) : va_P D vwCl (mw a cI cZ (va_up I 2 v) F) H := by
  rw [mwp_2_e] at h
  exact h
theorem mwp_3_e {v : Int32} : (mw a cI cZ I F).set 0 (a 0, .inr (8, [.int (I 0), .ref (a 1), .ref (a 2), .ref (a 3), .ref (a 4), .ref (a 5), .ref (a 6), .ref (a 7), .ref (a 8), .ref (a 9), .int (I 1), .ref (a 10), .ref (a 11), .ref (a 12), .ref (a 13), .int (I 2), .int (I 3), .ref (a 14), .ref (a 15), .ref (a 16), .int (I 4), .int (I 5), .ref (a 17), .ref (a 18), .ref (a 19), .ref (a 20), .ref (a 21), .int (I 6), .int (I 7), .int (I 8), .int (I 9), .int (I 10), .ref (a 22), .ref (a 23), .ref (a 24), .int (I 11), .ref (a 25)].set 16 (.int v))) = (mw a cI cZ (va_up I 3 v) F) := rfl
theorem mwp_3 {v : Int32} (h : va_P D vwCl ((mw a cI cZ I F).set 0 (a 0, .inr (8, [.int (I 0), .ref (a 1), .ref (a 2), .ref (a 3), .ref (a 4), .ref (a 5), .ref (a 6), .ref (a 7), .ref (a 8), .ref (a 9), .int (I 1), .ref (a 10), .ref (a 11), .ref (a 12), .ref (a 13), .int (I 2), .int (I 3), .ref (a 14), .ref (a 15), .ref (a 16), .int (I 4), .int (I 5), .ref (a 17), .ref (a 18), .ref (a 19), .ref (a 20), .ref (a 21), .int (I 6), .int (I 7), .int (I 8), .int (I 9), .int (I 10), .ref (a 22), .ref (a 23), .ref (a 24), .int (I 11), .ref (a 25)].set 16 (.int v)))) H) : va_P D vwCl (mw a cI cZ (va_up I 3 v) F) H := by
  rw [mwp_3_e] at h
  exact h
theorem mwp_4_e {v : Int32} : (mw a cI cZ I F).set 0 (a 0, .inr (8, [.int (I 0), .ref (a 1), .ref (a 2), .ref (a 3), .ref (a 4), .ref (a 5), .ref (a 6), .ref (a 7), .ref (a 8), .ref (a 9), .int (I 1), .ref (a 10), .ref (a 11), .ref (a 12), .ref (a 13), .int (I 2), .int (I 3), .ref (a 14), .ref (a 15), .ref (a 16), .int (I 4), .int (I 5), .ref (a 17), .ref (a 18), .ref (a 19), .ref (a 20), .ref (a 21), .int (I 6), .int (I 7), .int (I 8), .int (I 9), .int (I 10), .ref (a 22), .ref (a 23), .ref (a 24), .int (I 11), .ref (a 25)].set 20 (.int v))) = (mw a cI cZ (va_up I 4 v) F) := rfl
theorem mwp_4 {v : Int32} (h : va_P D vwCl ((mw a cI cZ I F).set 0 (a 0, .inr (8, [.int (I 0), .ref (a 1), .ref (a 2), .ref (a 3), .ref (a 4), .ref (a 5), .ref (a 6), .ref (a 7), .ref (a 8), .ref (a 9), .int (I 1), .ref (a 10), .ref (a 11), .ref (a 12), .ref (a 13), .int (I 2), .int (I 3), .ref (a 14), .ref (a 15), .ref (a 16), .int (I 4), .int (I 5), .ref (a 17), .ref (a 18), .ref (a 19), .ref (a 20), .ref (a 21), .int (I 6), .int (I 7), .int (I 8), .int (I 9), .int (I 10), .ref (a 22), .ref (a 23), .ref (a 24), .int (I 11), .ref (a 25)].set 20 (.int v)))) H) : va_P D vwCl (mw a cI cZ (va_up I 4 v) F) H := by
  rw [mwp_4_e] at h
  exact h
theorem mwp_5_e {v : Int32} : (mw a cI cZ I F).set 0 (a 0, .inr (8, [.int (I 0), .ref (a 1), .ref (a 2), .ref (a 3), .ref (a 4), .ref (a 5), .ref (a 6), .ref (a 7), .ref (a 8), .ref (a 9), .int (I 1), .ref (a 10), .ref (a 11), .ref (a 12), .ref (a 13), .int (I 2), .int (I 3), .ref (a 14), .ref (a 15), .ref (a 16), .int (I 4), .int (I 5), .ref (a 17), .ref (a 18), .ref (a 19), .ref (a 20), .ref (a 21), .int (I 6), .int (I 7), .int (I 8), .int (I 9), .int (I 10), .ref (a 22), .ref (a 23), .ref (a 24), .int (I 11), .ref (a 25)].set 21 (.int v))) = (mw a cI cZ (va_up I 5 v) F) := rfl
theorem mwp_5 {v : Int32} (h : va_P D vwCl ((mw a cI cZ I F).set 0 (a 0, .inr (8, [.int (I 0), .ref (a 1), .ref (a 2), .ref (a 3), .ref (a 4), .ref (a 5), .ref (a 6), .ref (a 7), .ref (a 8), .ref (a 9), .int (I 1), .ref (a 10), .ref (a 11), .ref (a 12), .ref (a 13), .int (I 2), .int (I 3), .ref (a 14), .ref (a 15), .ref (a 16), .int (I 4), .int (I 5), .ref (a 17), .ref (a 18), .ref (a 19), .ref (a 20), .ref (a 21), .int (I 6), .int (I 7), .int (I 8), .int (I 9), .int (I 10), .ref (a 22), .ref (a 23), .ref (a 24), .int (I 11), .ref (a 25)].set 21 (.int v)))) H) : va_P D vwCl (mw a cI cZ (va_up I 5 v) F) H := by
  rw [mwp_5_e] at h
  exact h
theorem mwp_6_e {v : Int32} : (mw a cI cZ I F).set 0 (a 0, .inr (8, [.int (I 0), .ref (a 1), .ref (a 2), .ref (a 3), .ref (a 4), .ref (a 5), .ref (a 6), .ref (a 7), .ref (a 8), .ref (a 9), .int (I 1), .ref (a 10), .ref (a 11), .ref (a 12), .ref (a 13), .int (I 2), .int (I 3), .ref (a 14), .ref (a 15), .ref (a 16), .int (I 4), .int (I 5), .ref (a 17), .ref (a 18), .ref (a 19), .ref (a 20), .ref (a 21), .int (I 6), .int (I 7), .int (I 8), .int (I 9), .int (I 10), .ref (a 22), .ref (a 23), .ref (a 24), .int (I 11), .ref (a 25)].set 27 (.int v))) = (mw a cI cZ (va_up I 6 v) F) := rfl
theorem mwp_6 {v : Int32} (h : va_P D vwCl ((mw a cI cZ I F).set 0 (a 0, .inr (8, [.int (I 0), .ref (a 1), .ref (a 2), .ref (a 3), .ref (a 4), .ref (a 5), .ref (a 6), .ref (a 7), .ref (a 8), .ref (a 9), .int (I 1), .ref (a 10), .ref (a 11), .ref (a 12), .ref (a 13), .int (I 2), .int (I 3), .ref (a 14), .ref (a 15), .ref (a 16), .int (I 4), .int (I 5), .ref (a 17), .ref (a 18), .ref (a 19), .ref (a 20), .ref (a 21), .int (I 6), .int (I 7), .int (I 8), .int (I 9), .int (I 10), .ref (a 22), .ref (a 23), .ref (a 24), .int (I 11), .ref (a 25)].set 27 (.int v)))) H) : va_P D vwCl (mw a cI cZ (va_up I 6 v) F) H := by
  rw [mwp_6_e] at h
  exact h
theorem mwp_7_e {v : Int32} : (mw a cI cZ I F).set 0 (a 0, .inr (8, [.int (I 0), .ref (a 1), .ref (a 2), .ref (a 3), .ref (a 4), .ref (a 5), .ref (a 6), .ref (a 7), .ref (a 8), .ref (a 9), .int (I 1), .ref (a 10), .ref (a 11), .ref (a 12), .ref (a 13), .int (I 2), .int (I 3), .ref (a 14), .ref (a 15), .ref (a 16), .int (I 4), .int (I 5), .ref (a 17), .ref (a 18), .ref (a 19), .ref (a 20), .ref (a 21), .int (I 6), .int (I 7), .int (I 8), .int (I 9), .int (I 10), .ref (a 22), .ref (a 23), .ref (a 24), .int (I 11), .ref (a 25)].set 28 (.int v))) = (mw a cI cZ (va_up I 7 v) F) := rfl
theorem mwp_7 {v : Int32} (h : va_P D vwCl ((mw a cI cZ I F).set 0 (a 0, .inr (8, [.int (I 0), .ref (a 1), .ref (a 2), .ref (a 3), .ref (a 4), .ref (a 5), .ref (a 6), .ref (a 7), .ref (a 8), .ref (a 9), .int (I 1), .ref (a 10), .ref (a 11), .ref (a 12), .ref (a 13), .int (I 2), .int (I 3), .ref (a 14), .ref (a 15), .ref (a 16), .int (I 4), .int (I 5), .ref (a 17), .ref (a 18), .ref (a 19), .ref (a 20), .ref (a 21), .int (I 6), .int (I 7), .int (I 8), .int (I 9), .int (I 10), .ref (a 22), .ref (a 23), .ref (a 24), .int (I 11), .ref (a 25)].set 28 (.int v)))) H) : va_P D vwCl (mw a cI cZ (va_up I 7 v) F) H := by
  rw [mwp_7_e] at h
  exact h
theorem mwp_8_e {v : Int32} : (mw a cI cZ I F).set 0 (a 0, .inr (8, [.int (I 0), .ref (a 1), .ref (a 2), .ref (a 3), .ref (a 4), .ref (a 5), .ref (a 6), .ref (a 7), .ref (a 8), .ref (a 9), .int (I 1), .ref (a 10), .ref (a 11), .ref (a 12), .ref (a 13), .int (I 2), .int (I 3), .ref (a 14), .ref (a 15), .ref (a 16), .int (I 4), .int (I 5), .ref (a 17), .ref (a 18), .ref (a 19), .ref (a 20), .ref (a 21), .int (I 6), .int (I 7), .int (I 8), .int (I 9), .int (I 10), .ref (a 22), .ref (a 23), .ref (a 24), .int (I 11), .ref (a 25)].set 29 (.int v))) = (mw a cI cZ (va_up I 8 v) F) := rfl
theorem mwp_8 {v : Int32} (h : va_P D vwCl ((mw a cI cZ I F).set 0 (a 0, .inr (8, [.int (I 0), .ref (a 1), .ref (a 2), .ref (a 3), .ref (a 4), .ref (a 5), .ref (a 6), .ref (a 7), .ref (a 8), .ref (a 9), .int (I 1), .ref (a 10), .ref (a 11), .ref (a 12), .ref (a 13), .int (I 2), .int (I 3), .ref (a 14), .ref (a 15), .ref (a 16), .int (I 4), .int (I 5), .ref (a 17), .ref (a 18), .ref (a 19), .ref (a 20), .ref (a 21), .int (I 6), .int (I 7), .int (I 8), .int (I 9), .int (I 10), .ref (a 22), .ref (a 23), .ref (a 24), .int (I 11), .ref (a 25)].set 29 (.int v)))) H) : va_P D vwCl (mw a cI cZ (va_up I 8 v) F) H := by
  rw [mwp_8_e] at h
  exact h
theorem mwp_9_e {v : Int32} : (mw a cI cZ I F).set 0 (a 0, .inr (8, [.int (I 0), .ref (a 1), .ref (a 2), .ref (a 3), .ref (a 4), .ref (a 5), .ref (a 6), .ref (a 7), .ref (a 8), .ref (a 9), .int (I 1), .ref (a 10), .ref (a 11), .ref (a 12), .ref (a 13), .int (I 2), .int (I 3), .ref (a 14), .ref (a 15), .ref (a 16), .int (I 4), .int (I 5), .ref (a 17), .ref (a 18), .ref (a 19), .ref (a 20), .ref (a 21), .int (I 6), .int (I 7), .int (I 8), .int (I 9), .int (I 10), .ref (a 22), .ref (a 23), .ref (a 24), .int (I 11), .ref (a 25)].set 30 (.int v))) = (mw a cI cZ (va_up I 9 v) F) := rfl
theorem mwp_9 {v : Int32} (h : va_P D vwCl ((mw a cI cZ I F).set 0 (a 0, .inr (8, [.int (I 0), .ref (a 1), .ref (a 2), .ref (a 3), .ref (a 4), .ref (a 5), .ref (a 6), .ref (a 7), .ref (a 8), .ref (a 9), .int (I 1), .ref (a 10), .ref (a 11), .ref (a 12), .ref (a 13), .int (I 2), .int (I 3), .ref (a 14), .ref (a 15), .ref (a 16), .int (I 4), .int (I 5), .ref (a 17), .ref (a 18), .ref (a 19), .ref (a 20), .ref (a 21), .int (I 6), .int (I 7), .int (I 8), .int (I 9), .int (I 10), .ref (a 22), .ref (a 23), .ref (a 24), .int (I 11), .ref (a 25)].set 30 (.int v)))) H) : va_P D vwCl (mw a cI cZ (va_up I 9 v) F) H := by
  rw [mwp_9_e] at h
  exact h
theorem mwp_10_e {v : Int32} : (mw a cI cZ I F).set 0 (a 0, .inr (8, [.int (I 0), .ref (a 1), .ref (a 2), .ref (a 3), .ref (a 4), .ref (a 5), .ref (a 6), .ref (a 7), .ref (a 8), .ref (a 9), .int (I 1), .ref (a 10), .ref (a 11), .ref (a 12), .ref (a 13), .int (I 2), .int (I 3), .ref (a 14), .ref (a 15), .ref (a 16), .int (I 4), .int (I 5), .ref (a 17), .ref (a 18), .ref (a 19), .ref (a 20), .ref (a 21), .int (I 6), .int (I 7), .int (I 8), .int (I 9), .int (I 10), .ref (a 22), .ref (a 23), .ref (a 24), .int (I 11), .ref (a 25)].set 31 (.int v))) = (mw a cI cZ (va_up I 10 v) F) := rfl
theorem mwp_10 {v : Int32} (h : va_P D vwCl ((mw a cI cZ I F).set 0 (a 0, .inr (8, [.int (I 0), .ref (a 1), .ref (a 2), .ref (a 3), .ref (a 4), .ref (a 5), .ref (a 6), .ref (a 7), .ref (a 8), .ref (a 9), .int (I 1), .ref (a 10), .ref (a 11), .ref (a 12), .ref (a 13), .int (I 2), .int (I 3), .ref (a 14), .ref (a 15), .ref (a 16), .int (I 4), .int (I 5), .ref (a 17), .ref (a 18), .ref (a 19), .ref (a 20), .ref (a 21), .int (I 6), .int (I 7), .int (I 8), .int (I 9), .int (I 10), .ref (a 22), .ref (a 23), .ref (a 24), .int (I 11), .ref (a 25)].set 31 (.int v)))) H) : va_P D vwCl (mw a cI cZ (va_up I 10 v) F) H := by
  rw [mwp_10_e] at h
  exact h
theorem mwp_11_e {v : Int32} : (mw a cI cZ I F).set 0 (a 0, .inr (8, [.int (I 0), .ref (a 1), .ref (a 2), .ref (a 3), .ref (a 4), .ref (a 5), .ref (a 6), .ref (a 7), .ref (a 8), .ref (a 9), .int (I 1), .ref (a 10), .ref (a 11), .ref (a 12), .ref (a 13), .int (I 2), .int (I 3), .ref (a 14), .ref (a 15), .ref (a 16), .int (I 4), .int (I 5), .ref (a 17), .ref (a 18), .ref (a 19), .ref (a 20), .ref (a 21), .int (I 6), .int (I 7), .int (I 8), .int (I 9), .int (I 10), .ref (a 22), .ref (a 23), .ref (a 24), .int (I 11), .ref (a 25)].set 35 (.int v))) = (mw a cI cZ (va_up I 11 v) F) := rfl
theorem mwp_11 {v : Int32} (h : va_P D vwCl ((mw a cI cZ I F).set 0 (a 0, .inr (8, [.int (I 0), .ref (a 1), .ref (a 2), .ref (a 3), .ref (a 4), .ref (a 5), .ref (a 6), .ref (a 7), .ref (a 8), .ref (a 9), .int (I 1), .ref (a 10), .ref (a 11), .ref (a 12), .ref (a 13), .int (I 2), .int (I 3), .ref (a 14), .ref (a 15), .ref (a 16), .int (I 4), .int (I 5), .ref (a 17), .ref (a 18), .ref (a 19), .ref (a 20), .ref (a 21), .int (I 6), .int (I 7), .int (I 8), .int (I 9), .int (I 10), .ref (a 22), .ref (a 23), .ref (a 24), .int (I 11), .ref (a 25)].set 35 (.int v)))) H) : va_P D vwCl (mw a cI cZ (va_up I 11 v) F) H := by
  rw [mwp_11_e] at h
  exact h
theorem mwa_1_e {v : Nat → Int32} : (mw a cI cZ I F).set 1 (a 1, .inl (cZ, 8, .inl (v))) = (mw a cI cZ I (va_up F 1 v)) := rfl
theorem mwa_1 {v : Nat → Int32} (h : va_P D vwCl ((mw a cI cZ I F).set 1 (a 1, .inl (cZ, 8, .inl (v)))) H) : va_P D vwCl (mw a cI cZ I (va_up F 1 v)) H := by
  rw [mwa_1_e] at h
  exact h
theorem mwa_2_e {v : Nat → Int32} : (mw a cI cZ I F).set 2 (a 2, .inl (cI, 8, .inl (v))) = (mw a cI cZ I (va_up F 2 v)) := rfl
theorem mwa_2 {v : Nat → Int32} (h : va_P D vwCl ((mw a cI cZ I F).set 2 (a 2, .inl (cI, 8, .inl (v)))) H) : va_P D vwCl (mw a cI cZ I (va_up F 2 v)) H := by
  rw [mwa_2_e] at h
  exact h
theorem mwa_3_e {v : Nat → Int32} : (mw a cI cZ I F).set 3 (a 3, .inl (cI, 8, .inl (v))) = (mw a cI cZ I (va_up F 3 v)) := rfl
theorem mwa_3 {v : Nat → Int32} (h : va_P D vwCl ((mw a cI cZ I F).set 3 (a 3, .inl (cI, 8, .inl (v)))) H) : va_P D vwCl (mw a cI cZ I (va_up F 3 v)) H := by
  rw [mwa_3_e] at h
  exact h
theorem mwa_4_e {v : Nat → Int32} : (mw a cI cZ I F).set 4 (a 4, .inl (cI, 8, .inl (v))) = (mw a cI cZ I (va_up F 4 v)) := rfl
theorem mwa_4 {v : Nat → Int32} (h : va_P D vwCl ((mw a cI cZ I F).set 4 (a 4, .inl (cI, 8, .inl (v)))) H) : va_P D vwCl (mw a cI cZ I (va_up F 4 v)) H := by
  rw [mwa_4_e] at h
  exact h
theorem mwa_5_e {v : Nat → Int32} : (mw a cI cZ I F).set 5 (a 5, .inl (cI, 8, .inl (v))) = (mw a cI cZ I (va_up F 5 v)) := rfl
theorem mwa_5 {v : Nat → Int32} (h : va_P D vwCl ((mw a cI cZ I F).set 5 (a 5, .inl (cI, 8, .inl (v)))) H) : va_P D vwCl (mw a cI cZ I (va_up F 5 v)) H := by
  rw [mwa_5_e] at h
  exact h
theorem mwa_6_e {v : Nat → Int32} : (mw a cI cZ I F).set 6 (a 6, .inl (cI, 8, .inl (v))) = (mw a cI cZ I (va_up F 6 v)) := rfl
theorem mwa_6 {v : Nat → Int32} (h : va_P D vwCl ((mw a cI cZ I F).set 6 (a 6, .inl (cI, 8, .inl (v)))) H) : va_P D vwCl (mw a cI cZ I (va_up F 6 v)) H := by
  rw [mwa_6_e] at h
  exact h
theorem mwa_7_e {v : Nat → Int32} : (mw a cI cZ I F).set 7 (a 7, .inl (cI, 8, .inl (v))) = (mw a cI cZ I (va_up F 7 v)) := rfl
theorem mwa_7 {v : Nat → Int32} (h : va_P D vwCl ((mw a cI cZ I F).set 7 (a 7, .inl (cI, 8, .inl (v)))) H) : va_P D vwCl (mw a cI cZ I (va_up F 7 v)) H := by
  rw [mwa_7_e] at h
  exact h
theorem mwa_8_e {v : Nat → Int32} : (mw a cI cZ I F).set 8 (a 8, .inl (cI, 960, .inl (v))) = (mw a cI cZ I (va_up F 8 v)) := rfl
theorem mwa_8 {v : Nat → Int32} (h : va_P D vwCl ((mw a cI cZ I F).set 8 (a 8, .inl (cI, 960, .inl (v)))) H) : va_P D vwCl (mw a cI cZ I (va_up F 8 v)) H := by
  rw [mwa_8_e] at h
  exact h
theorem mwa_9_e {v : Nat → Int32} : (mw a cI cZ I F).set 9 (a 9, .inl (cI, 960, .inl (v))) = (mw a cI cZ I (va_up F 9 v)) := rfl
theorem mwa_9 {v : Nat → Int32} (h : va_P D vwCl ((mw a cI cZ I F).set 9 (a 9, .inl (cI, 960, .inl (v)))) H) : va_P D vwCl (mw a cI cZ I (va_up F 9 v)) H := by
  rw [mwa_9_e] at h
  exact h
theorem mwa_10_e {v : Nat → Int32} : (mw a cI cZ I F).set 10 (a 10, .inl (cI, 120, .inl (v))) = (mw a cI cZ I (va_up F 10 v)) := rfl
theorem mwa_10 {v : Nat → Int32} (h : va_P D vwCl ((mw a cI cZ I F).set 10 (a 10, .inl (cI, 120, .inl (v)))) H) : va_P D vwCl (mw a cI cZ I (va_up F 10 v)) H := by
  rw [mwa_10_e] at h
  exact h
theorem mwa_11_e {v : Nat → Int32} : (mw a cI cZ I F).set 11 (a 11, .inl (cI, 1920, .inl (v))) = (mw a cI cZ I (va_up F 11 v)) := rfl
theorem mwa_11 {v : Nat → Int32} (h : va_P D vwCl ((mw a cI cZ I F).set 11 (a 11, .inl (cI, 1920, .inl (v)))) H) : va_P D vwCl (mw a cI cZ I (va_up F 11 v)) H := by
  rw [mwa_11_e] at h
  exact h
theorem mwa_12_e {v : Nat → Int32} : (mw a cI cZ I F).set 12 (a 12, .inl (cI, 1200, .inl (v))) = (mw a cI cZ I (va_up F 12 v)) := rfl
theorem mwa_12 {v : Nat → Int32} (h : va_P D vwCl ((mw a cI cZ I F).set 12 (a 12, .inl (cI, 1200, .inl (v)))) H) : va_P D vwCl (mw a cI cZ I (va_up F 12 v)) H := by
  rw [mwa_12_e] at h
  exact h
theorem mwa_13_e {v : Nat → Int32} : (mw a cI cZ I F).set 13 (a 13, .inl (cZ, 120, .inl (v))) = (mw a cI cZ I (va_up F 13 v)) := rfl
theorem mwa_13 {v : Nat → Int32} (h : va_P D vwCl ((mw a cI cZ I F).set 13 (a 13, .inl (cZ, 120, .inl (v)))) H) : va_P D vwCl (mw a cI cZ I (va_up F 13 v)) H := by
  rw [mwa_13_e] at h
  exact h
theorem mwa_14_e {v : Nat → Int32} : (mw a cI cZ I F).set 14 (a 14, .inl (cI, 32, .inl (v))) = (mw a cI cZ I (va_up F 14 v)) := rfl
theorem mwa_14 {v : Nat → Int32} (h : va_P D vwCl ((mw a cI cZ I F).set 14 (a 14, .inl (cI, 32, .inl (v)))) H) : va_P D vwCl (mw a cI cZ I (va_up F 14 v)) H := by
  rw [mwa_14_e] at h
  exact h
theorem mwa_15_e {v : Nat → Int32} : (mw a cI cZ I F).set 15 (a 15, .inl (cI, 10, .inl (v))) = (mw a cI cZ I (va_up F 15 v)) := rfl
theorem mwa_15 {v : Nat → Int32} (h : va_P D vwCl ((mw a cI cZ I F).set 15 (a 15, .inl (cI, 10, .inl (v)))) H) : va_P D vwCl (mw a cI cZ I (va_up F 15 v)) H := by
  rw [mwa_15_e] at h
  exact h
theorem mwa_16_e {v : Nat → Int32} : (mw a cI cZ I F).set 16 (a 16, .inl (cZ, 8, .inl (v))) = (mw a cI cZ I (va_up F 16 v)) := rfl
theorem mwa_16 {v : Nat → Int32} (h : va_P D vwCl ((mw a cI cZ I F).set 16 (a 16, .inl (cZ, 8, .inl (v)))) H) : va_P D vwCl (mw a cI cZ I (va_up F 16 v)) H := by
  rw [mwa_16_e] at h
  exact h
theorem mwa_17_e {v : Nat → Int32} : (mw a cI cZ I F).set 17 (a 17, .inl (cI, 50, .inl (v))) = (mw a cI cZ I (va_up F 17 v)) := rfl
theorem mwa_17 {v : Nat → Int32} (h : va_P D vwCl ((mw a cI cZ I F).set 17 (a 17, .inl (cI, 50, .inl (v)))) H) : va_P D vwCl (mw a cI cZ I (va_up F 17 v)) H := by
  rw [mwa_17_e] at h
  exact h
theorem mwa_18_e {v : Nat → Int32} : (mw a cI cZ I F).set 18 (a 18, .inl (cI, 50, .inl (v))) = (mw a cI cZ I (va_up F 18 v)) := rfl
theorem mwa_18 {v : Nat → Int32} (h : va_P D vwCl ((mw a cI cZ I F).set 18 (a 18, .inl (cI, 50, .inl (v)))) H) : va_P D vwCl (mw a cI cZ I (va_up F 18 v)) H := by
  rw [mwa_18_e] at h
  exact h
theorem mwa_19_e {v : Nat → Int32} : (mw a cI cZ I F).set 19 (a 19, .inl (cI, 50, .inl (v))) = (mw a cI cZ I (va_up F 19 v)) := rfl
theorem mwa_19 {v : Nat → Int32} (h : va_P D vwCl ((mw a cI cZ I F).set 19 (a 19, .inl (cI, 50, .inl (v)))) H) : va_P D vwCl (mw a cI cZ I (va_up F 19 v)) H := by
  rw [mwa_19_e] at h
  exact h
theorem mwa_20_e {v : Nat → Int32} : (mw a cI cZ I F).set 20 (a 20, .inl (cI, 800, .inl (v))) = (mw a cI cZ I (va_up F 20 v)) := rfl
theorem mwa_20 {v : Nat → Int32} (h : va_P D vwCl ((mw a cI cZ I F).set 20 (a 20, .inl (cI, 800, .inl (v)))) H) : va_P D vwCl (mw a cI cZ I (va_up F 20 v)) H := by
  rw [mwa_20_e] at h
  exact h
theorem mwa_21_e {v : Nat → Int32} : (mw a cI cZ I F).set 21 (a 21, .inl (cI, 500, .inl (v))) = (mw a cI cZ I (va_up F 21 v)) := rfl
theorem mwa_21 {v : Nat → Int32} (h : va_P D vwCl ((mw a cI cZ I F).set 21 (a 21, .inl (cI, 500, .inl (v)))) H) : va_P D vwCl (mw a cI cZ I (va_up F 21 v)) H := by
  rw [mwa_21_e] at h
  exact h
theorem mwa_22_e {v : Nat → Int32} : (mw a cI cZ I F).set 22 (a 22, .inl (cI, 201, .inl (v))) = (mw a cI cZ I (va_up F 22 v)) := rfl
theorem mwa_22 {v : Nat → Int32} (h : va_P D vwCl ((mw a cI cZ I F).set 22 (a 22, .inl (cI, 201, .inl (v)))) H) : va_P D vwCl (mw a cI cZ I (va_up F 22 v)) H := by
  rw [mwa_22_e] at h
  exact h
theorem mwa_23_e {v : Nat → Int32} : (mw a cI cZ I F).set 23 (a 23, .inl (cI, 201, .inl (v))) = (mw a cI cZ I (va_up F 23 v)) := rfl
theorem mwa_23 {v : Nat → Int32} (h : va_P D vwCl ((mw a cI cZ I F).set 23 (a 23, .inl (cI, 201, .inl (v)))) H) : va_P D vwCl (mw a cI cZ I (va_up F 23 v)) H := by
  rw [mwa_23_e] at h
  exact h
theorem mwa_24_e {v : Nat → Int32} : (mw a cI cZ I F).set 24 (a 24, .inl (cI, 2000, .inl (v))) = (mw a cI cZ I (va_up F 24 v)) := rfl
theorem mwa_24 {v : Nat → Int32} (h : va_P D vwCl ((mw a cI cZ I F).set 24 (a 24, .inl (cI, 2000, .inl (v)))) H) : va_P D vwCl (mw a cI cZ I (va_up F 24 v)) H := by
  rw [mwa_24_e] at h
  exact h
theorem mwa_25_e {v : Nat → Int32} : (mw a cI cZ I F).set 25 (a 25, .inl (cI, 100, .inl (v))) = (mw a cI cZ I (va_up F 25 v)) := rfl
theorem mwa_25 {v : Nat → Int32} (h : va_P D vwCl ((mw a cI cZ I F).set 25 (a 25, .inl (cI, 100, .inl (v)))) H) : va_P D vwCl (mw a cI cZ I (va_up F 25 v)) H := by
  rw [mwa_25_e] at h
  exact h
end MW
/-- what a contract starts from -/
def mP (D : va_G) (a : Nat → Nat) (cI cZ : ClassId) (I : SI) (F : SF) (sz : Nat) (U : State) : Prop := U.heap.size = sz ∧ va_P D vwCl (mw a cI cZ I F) U.heap ∧ va_K D vwCl [(cI, .int), (cZ, .boolean)] U
theorem mP_bl {D : va_G} {a : Nat → Nat} {cI cZ : ClassId} {I : SI} {F : SF} {sz : Nat} {av : List Value} : FrameBlind (va_Pc av (mP D a cI cZ I F sz)) := fun x U g mk q => by
  obtain ⟨q0, q1, q2, q3⟩ := q
  exact ⟨q0, q1, q2, va_K.moved (u := U) (U := U.calling g mk x) (Vm.Alike.refl U.vm) q3⟩
theorem mP_at {D : va_G} {a : Nat → Nat} {cI cZ : ClassId} {I : SI} {F : SF} {av : List Value} {s : State} {H : Heap} (hP : va_P D vwCl (mw a cI cZ I F) H) (hK : va_K D vwCl [(cI, .int), (cZ, .boolean)] s) : ∀ U : State, U.heap = H → s.WarmedH U.vm → va_Pc av (mP D a cI cZ I F H.size) av.toArray U := fun U hU hW => ⟨rfl, by rw [hU], by rw [hU]; exact hP, va_K.moved hW.alike hK⟩
section Xmw
variable {p : Program} {l : Launch} {e : Env} {R : Room} {s : State} {m : MethodId} {args : Array Value} {below : List Frame} {meth : Method} {c : Code} {H : Heap} {locs : List Loc} {cells slots : Nat} {Q : State → Prop}
variable {pc : Nat} {ls : Array Slot} {rest st0 : List Value} {av : Array Value} {H0 : Heap} {D : va_G} {a : Nat → Nat} {cI cZ : ClassId}
theorem mc_i {P1 : Int32 → SI → SF → Prop} (hr : va_Run p l e R s m args below meth c H locs cells slots 0 0 (F0 m pc ls st0) rest (va_Qi (fun r (u : SI × SF) => P1 r u.1 u.2) (fun u t => va_P D vwCl (mw a cI cZ u.1 u.2) t.heap) (xA 26 a H.size) av) (xA 26 a H.size)) (hS : va_S (xA 26 a H0.size) H0 H locs)
    (kk : ∀ (r : Int32) (I : SI) (F : SF) (H1 : Heap) (locs1 : List Loc), va_P D vwCl (mw a cI cZ I F) H1 → P1 r I F → va_S (xA 26 a H0.size) H0 H1 locs1 → W p l e R s m args below meth c H1 locs1 cells slots Q (F0 m (pc + 3) ls (.int r :: rest))) : W p l e R s m args below meth c H locs cells slots Q (F0 m pc ls st0) :=
  va_calli hr hS (fun q _ h => xA_up h hS.1) (fun q h => xA_up h hS.1) (fun r u t H1 locs1 ht _ hp hb _ _ hS1 => kk r u.1 u.2 H1 locs1 (by rw [← ht]; exact hb) hp hS1)
theorem mc_v {P1 : SI → SF → Prop} (hr : va_Run p l e R s m args below meth c H locs cells slots 0 0 (F0 m pc ls st0) rest (va_Qv (fun (u : SI × SF) => P1 u.1 u.2) (fun u t => va_P D vwCl (mw a cI cZ u.1 u.2) t.heap) (xA 26 a H.size) av) (xA 26 a H.size)) (hS : va_S (xA 26 a H0.size) H0 H locs)
    (kk : ∀ (I : SI) (F : SF) (H1 : Heap) (locs1 : List Loc), va_P D vwCl (mw a cI cZ I F) H1 → P1 I F → va_S (xA 26 a H0.size) H0 H1 locs1 → W p l e R s m args below meth c H1 locs1 cells slots Q (F0 m (pc + 3) ls rest)) : W p l e R s m args below meth c H locs cells slots Q (F0 m pc ls st0) :=
  va_callv hr hS (fun q _ h => xA_up h hS.1) (fun q h => xA_up h hS.1) (fun u t H1 locs1 ht _ hp hb _ _ hS1 => kk u.1 u.2 H1 locs1 (by rw [← ht]; exact hb) hp hS1)
end Xmw
