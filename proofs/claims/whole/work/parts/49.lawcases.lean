def wpl_method (p1 : Int32) (p2 : Int32) (p3 : Int32) (p4 : Int32) (p5 : Int32) (p6 : Int32) (I : SI) (F : SF) (g : Nat → Int64) (J : SI) (G : SF) (Rel : SI → SF → SI → SF → Prop) : Prop := ∃ P : Int32 → SI → SF → (Nat → Int64) → Prop, wp_LW_method p1 p2 p3 p4 p5 p6 I F g P ∧ ∀ r5 I1 F1 g1, P r5 I1 F1 g1 → ∃ PM : Int32 → SI → SF → Prop, wp_MM_method p1 p2 p3 p4 p5 p6 J G PM ∧ ∀ b6 J1 G1, PM b6 J1 G1 → ∃ PT : Int32 → SI → SF → Prop, wp_MM_thrown J1 G1 PT ∧ ∀ t5 J2 G2, PT t5 J2 G2 → t5 = r5 ∧ (r5 = 0 → ((b6 = 0 → g1 (0 : Int32).toNatClampNeg = 0) ∧ (¬ b6 = 0 → g1 (0 : Int32).toNatClampNeg = 1))) ∧ Rel I1 F1 J2 G2
set_option maxHeartbeats 4000000 in
set_option maxRecDepth 100000 in
theorem lc_method {p : Program} {l : Launch} {e : Env} {s : State} {m : MethodId} {below : List Frame} {meth : Method} {c : Code} {Q : State → Prop} {D : va_G} {a b : Nat → Nat} {cI cZ cQ cJ : ClassId} {bs L n c0 s0 : Nat} {xs : Nat → Int32} (hlt : l.stackTraces = false) (hLC : LC p s m meth c D a b cI cZ cQ cJ bs L xs) (hn : 7 * n + 7 ≤ L) (hL : L ≤ 3584) (hc0 : c0 + 3 ≤ 601024) (hs0 : s0 + 18 ≤ 7293034) (Rel : SI → SF → SI → SF → Prop)
    (I : SI) (F : SF) (g : Nat → Int64) (J : SI) (G : SF) (H : Heap) (locs : List Loc) (ls : Array Slot) (hl : lv_has ls 7 [(4, .int (nI (7 * n))), (0, .ref bs), (1, .ref (a 0)), (2, .ref (b 0)), (3, .ref (a 47))]) (hA : lSt D a b cI cZ cQ cJ I F g J G H) (hS : va_S (fun q => s.heap.size ≤ q) s.heap H locs) (hw : wpl_method (xs (nI (7 * n) + 1).toNatClampNeg) (xs (nI (7 * n) + 2).toNatClampNeg) (xs (nI (7 * n) + 3).toNatClampNeg) (xs (nI (7 * n) + 4).toNatClampNeg) (xs (nI (7 * n) + 5).toNatClampNeg) (xs (nI (7 * n) + 6).toNatClampNeg) I F g J G Rel)
    (kk : ∀ (I : SI) (F : SF) (g : Nat → Int64) (J : SI) (G : SF) (H : Heap) (locs : List Loc) (ls : Array Slot), lv_has ls 7 [(4, .int (nI (7 * n))), (0, .ref bs), (1, .ref (a 0)), (2, .ref (b 0)), (3, .ref (a 47))] → lSt D a b cI cZ cQ cJ I F g J G H → va_S (fun q => s.heap.size ≤ q) s.heap H locs → Rel I F J G → W p l e room_1 s m #[Value.ref bs] below meth c H locs (c0 + 3) (s0 + 18) Q (F0 m 1120 ls [])) : W p l e room_1 s m #[Value.ref bs] below meth c H locs c0 s0 Q (F0 m 112 ls []) := by
  obtain ⟨hx, hb, hml, hown, hts, hK, hN, hZ, hX, hC, hLA, hXs, hbs⟩ := hLC
  have hbA : ¬ s.heap.size ≤ bs := Nat.not_le.mpr hbs
  obtain ⟨P, hc, hw⟩ := hw
  refine lv_aload_n hx hb dL_112 rfl (lv_at hl 2 rfl) ?_
  refine lv_aload_n hx hb dL_113 rfl (lv_at hl 1 rfl) ?_
  refine lv_iload hx hb dL_114 (lv_at hl 0 rfl) ?_
  refine lv_iconst (v := 1) hx hb dL_116 (by decide) ?_
  refine lv_iadd hx hb dL_117 ?_
  refine va_sld hx hb hXs hbs hbA hS (xs_in (j := 1) hn hL (by decide)) dL_118 ?_
  refine lv_aload_n hx hb dL_119 rfl (lv_at hl 1 rfl) ?_
  refine lv_iload hx hb dL_120 (lv_at hl 0 rfl) ?_
  refine lv_iconst (v := 2) hx hb dL_122 (by decide) ?_
  refine lv_iadd hx hb dL_123 ?_
  refine va_sld hx hb hXs hbs hbA hS (xs_in (j := 2) hn hL (by decide)) dL_124 ?_
  refine lv_aload_n hx hb dL_125 rfl (lv_at hl 1 rfl) ?_
  refine lv_iload hx hb dL_126 (lv_at hl 0 rfl) ?_
  refine lv_iconst (v := 3) hx hb dL_128 (by decide) ?_
  refine lv_iadd hx hb dL_129 ?_
  refine va_sld hx hb hXs hbs hbA hS (xs_in (j := 3) hn hL (by decide)) dL_130 ?_
  refine lv_aload_n hx hb dL_131 rfl (lv_at hl 1 rfl) ?_
  refine lv_iload hx hb dL_132 (lv_at hl 0 rfl) ?_
  refine lv_iconst (v := 4) hx hb dL_134 (by decide) ?_
  refine lv_iadd hx hb dL_135 ?_
  refine va_sld hx hb hXs hbs hbA hS (xs_in (j := 4) hn hL (by decide)) dL_136 ?_
  refine lv_aload_n hx hb dL_137 rfl (lv_at hl 1 rfl) ?_
  refine lv_iload hx hb dL_138 (lv_at hl 0 rfl) ?_
  refine lv_iconst (v := 5) hx hb dL_140 (by decide) ?_
  refine lv_iadd hx hb dL_141 ?_
  refine va_sld hx hb hXs hbs hbA hS (xs_in (j := 5) hn hL (by decide)) dL_142 ?_
  refine lv_aload_n hx hb dL_143 rfl (lv_at hl 1 rfl) ?_
  refine lv_iload hx hb dL_144 (lv_at hl 0 rfl) ?_
  refine lv_bipush (v := 6) hx hb dL_146 (by decide) ?_
  refine lv_iadd hx hb dL_148 ?_
  refine va_sld hx hb hXs hbs hbA hS (xs_in (j := 6) hn hL (by decide)) dL_149 ?_
  refine lv_aload_n hx hb dL_150 rfl (lv_at hl 4 rfl) ?_
  refine ll_w (xw_runS (n := 8) (As := [.ref (a 0), .int (xs (nI (7 * n) + 1).toNatClampNeg), .int (xs (nI (7 * n) + 2).toNatClampNeg), .int (xs (nI (7 * n) + 3).toNatClampNeg), .int (xs (nI (7 * n) + 4).toNatClampNeg), .int (xs (nI (7 * n) + 5).toNatClampNeg), .int (xs (nI (7 * n) + 6).toNatClampNeg), .ref (a 47)]) (rest := []) ⟨hx, hb, hml, hown, hts⟩ (c_LW_method l hlt D a cI cZ cQ cJ hLA.1 I F g (xs (nI (7 * n) + 1).toNatClampNeg) (xs (nI (7 * n) + 2).toNatClampNeg) (xs (nI (7 * n) + 3).toNatClampNeg) (xs (nI (7 * n) + 4).toNatClampNeg) (xs (nI (7 * n) + 5).toNatClampNeg) (xs (nI (7 * n) + 6).toNatClampNeg) H.size P hc) wc_LW_method (hts _ tw_1_237) (hts _ tw_1_238) (hts _ tw_1_0) rfl rfl (by decide) (by decide +kernel) (by decide) (by decide) ⟨lP_bl, ll_at hA hK hN hZ hX hC hLA hS⟩ rfl rfl hl.1 rfl (lv_room (Nat.le_of_ble_eq_true rfl)) dL_151 ⟨by show _ ≤ 601024; omega, by show _ ≤ 7293034; omega⟩) hLA hA hS (fun r5 I F g H locs hA hp hS => ?_)
  obtain ⟨PM, hc, hw⟩ := hw r5 I F g hp
  refine lv_istore (lv' := [(5, .int r5), (4, .int (nI (7 * n))), (0, .ref bs), (1, .ref (a 0)), (2, .ref (b 0)), (3, .ref (a 47))]) hx hb dL_154 hl (by decide) rfl (fun ls hl => ?_)
  refine lv_aload_n hx hb dL_156 rfl (lv_at hl 4 rfl) ?_
  refine lv_aload_n hx hb dL_157 rfl (lv_at hl 2 rfl) ?_
  refine lv_iload hx hb dL_158 (lv_at hl 1 rfl) ?_
  refine lv_iconst (v := 1) hx hb dL_160 (by decide) ?_
  refine lv_iadd hx hb dL_161 ?_
  refine va_sld hx hb hXs hbs hbA hS (xs_in (j := 1) hn hL (by decide)) dL_162 ?_
  refine lv_aload_n hx hb dL_163 rfl (lv_at hl 2 rfl) ?_
  refine lv_iload hx hb dL_164 (lv_at hl 1 rfl) ?_
  refine lv_iconst (v := 2) hx hb dL_166 (by decide) ?_
  refine lv_iadd hx hb dL_167 ?_
  refine va_sld hx hb hXs hbs hbA hS (xs_in (j := 2) hn hL (by decide)) dL_168 ?_
  refine lv_aload_n hx hb dL_169 rfl (lv_at hl 2 rfl) ?_
  refine lv_iload hx hb dL_170 (lv_at hl 1 rfl) ?_
  refine lv_iconst (v := 3) hx hb dL_172 (by decide) ?_
  refine lv_iadd hx hb dL_173 ?_
  refine va_sld hx hb hXs hbs hbA hS (xs_in (j := 3) hn hL (by decide)) dL_174 ?_
  refine lv_aload_n hx hb dL_175 rfl (lv_at hl 2 rfl) ?_
  refine lv_iload hx hb dL_176 (lv_at hl 1 rfl) ?_
  refine lv_iconst (v := 4) hx hb dL_178 (by decide) ?_
  refine lv_iadd hx hb dL_179 ?_
  refine va_sld hx hb hXs hbs hbA hS (xs_in (j := 4) hn hL (by decide)) dL_180 ?_
  refine lv_aload_n hx hb dL_181 rfl (lv_at hl 2 rfl) ?_
  refine lv_iload hx hb dL_182 (lv_at hl 1 rfl) ?_
  refine lv_iconst (v := 5) hx hb dL_184 (by decide) ?_
  refine lv_iadd hx hb dL_185 ?_
  refine va_sld hx hb hXs hbs hbA hS (xs_in (j := 5) hn hL (by decide)) dL_186 ?_
  refine lv_aload_n hx hb dL_187 rfl (lv_at hl 2 rfl) ?_
  refine lv_iload hx hb dL_188 (lv_at hl 1 rfl) ?_
  refine lv_bipush (v := 6) hx hb dL_190 (by decide) ?_
  refine lv_iadd hx hb dL_192 ?_
  refine va_sld hx hb hXs hbs hbA hS (xs_in (j := 6) hn hL (by decide)) dL_193 ?_
  refine ll_i (va_runV (As := [.int (xs (nI (7 * n) + 1).toNatClampNeg), .int (xs (nI (7 * n) + 2).toNatClampNeg), .int (xs (nI (7 * n) + 3).toNatClampNeg), .int (xs (nI (7 * n) + 4).toNatClampNeg), .int (xs (nI (7 * n) + 5).toNatClampNeg), .int (xs (nI (7 * n) + 6).toNatClampNeg)]) (rest := []) ⟨hx, hb, hml, hown, hts⟩ (c_MM_method l D b cI cZ hLA.2.1 J G (xs (nI (7 * n) + 1).toNatClampNeg) (xs (nI (7 * n) + 2).toNatClampNeg) (xs (nI (7 * n) + 3).toNatClampNeg) (xs (nI (7 * n) + 4).toNatClampNeg) (xs (nI (7 * n) + 5).toNatClampNeg) (xs (nI (7 * n) + 6).toNatClampNeg) H.size PM hc) (cwV 6 hts (tb_V (C := "CodeJudgeModel") wc_MM_method tw_4_181 tw_4_182 tw_4_183 tw_1_9) rfl rfl rfl (by decide +kernel) ⟨(Nat.le_of_ble_eq_true rfl), (Nat.le_of_ble_eq_true rfl)⟩) ⟨mP_bl, va_recv hK hA.2 rfl mw_0, ll_mat hA hK⟩ rfl rfl hl.1 rfl (lv_room (Nat.le_of_ble_eq_true rfl)) dL_194 ⟨by show _ ≤ 601024; omega, by show _ ≤ 7293034; omega⟩) hLA hA hS (fun b6 J G H locs hA hp hS => ?_)
  obtain ⟨PT, hc, hw⟩ := hw b6 J G hp
  refine lv_istore (lv' := [(6, .int b6), (5, .int r5), (4, .int (nI (7 * n))), (0, .ref bs), (1, .ref (a 0)), (2, .ref (b 0)), (3, .ref (a 47))]) hx hb dL_197 hl (by decide) rfl (fun ls hl => ?_)
  refine lv_aload_n hx hb dL_199 rfl (lv_at hl 5 rfl) ?_
  refine ll_i (va_runV (As := []) (rest := []) ⟨hx, hb, hml, hown, hts⟩ (c_MM_thrown l D b cI cZ hLA.2.1 J G H.size PT hc) (cwV 0 hts (tb_V (C := "CodeJudgeModel") wc_MM_thrown tw_4_177 tw_4_178 tw_4_179 tw_1_9) rfl rfl rfl (by decide +kernel) ⟨(Nat.le_of_ble_eq_true rfl), (Nat.le_of_ble_eq_true rfl)⟩) ⟨mP_bl, va_recv hK hA.2 rfl mw_0, ll_mat hA hK⟩ rfl rfl hl.1 rfl (lv_room (Nat.le_of_ble_eq_true rfl)) dL_200 ⟨by show _ ≤ 601024; omega, by show _ ≤ 7293034; omega⟩) hLA hA hS (fun t5 J G H locs hA hp hS => ?_)
  obtain ⟨rfl, hz⟩ := hw t5 J G hp
  refine lv_iload hx hb dL_203 (lv_at hl 1 rfl) ?_
  refine lv_icmp_eq (tgt := 210) hx hb dL_205 (by decide) (fun _ => ?_) (fun h => absurd rfl h)
  refine lv_iload hx hb dL_210 (lv_at hl 1 rfl) ?_
  obtain ⟨hv, hw⟩ := hz
  refine lv_if_ne (tgt := 234) hx hb dL_212 (by decide) (fun h => ?_) (fun h => ?_)
  · refine lv_goto (tgt := 1120) hx hb dL_234 (by decide) ?_
    refine W.widen (k := c0 + 3) (n := s0 + 18) (by omega) (by omega) ?_
    exact kk I F g J G H locs ls (lv_sub hl [2, 3, 4, 5, 6] rfl) hA hS hw
  · have hv := hv h
    refine lv_aload_n hx hb dL_215 rfl (lv_at hl 6 rfl) ?_
    refine lv_iconst (v := 0) hx hb dL_216 (by decide) ?_
    refine va_lald hx hb hK hA.1 47 3 lw_47 rfl (by unfold vp_in; decide) dL_217 ?_
    refine lv_iload hx hb dL_218 (lv_at hl 0 rfl) ?_
    refine lv_if_eq (tgt := 227) hx hb dL_220 (by decide) (fun h6 => ?_) (fun h6 => ?_)
    · refine lv_lconst (v := 0) hx hb dL_227 rfl ?_
      refine W.lcmp hx hb dL_228 ?_
      refine lv_if_eq (tgt := 234) hx hb dL_229 (by decide) (fun _ => ?_) (fun h => absurd (lg_eq (hv.1 h6)) h)
      refine lv_goto (tgt := 1120) hx hb dL_234 (by decide) ?_
      refine W.widen (k := c0 + 3) (n := s0 + 18) (by omega) (by omega) ?_
      exact kk I F g J G H locs ls (lv_sub hl [2, 3, 4, 5, 6] rfl) hA hS hw
    · refine lv_lconst (v := 1) hx hb dL_223 rfl ?_
      refine lv_goto (tgt := 228) hx hb dL_224 (by decide) ?_
      refine W.lcmp hx hb dL_228 ?_
      refine lv_if_eq (tgt := 234) hx hb dL_229 (by decide) (fun _ => ?_) (fun h => absurd (lg_eq (hv.2 h6)) h)
      refine lv_goto (tgt := 1120) hx hb dL_234 (by decide) ?_
      refine W.widen (k := c0 + 3) (n := s0 + 18) (by omega) (by omega) ?_
      exact kk I F g J G H locs ls (lv_sub hl [2, 3, 4, 5, 6] rfl) hA hS hw
def wpl_add (p1 : Int32) (p2 : Int32) (p3 : Int32) (I : SI) (F : SF) (g : Nat → Int64) (J : SI) (G : SF) (Rel : SI → SF → SI → SF → Prop) : Prop := ∃ P : Int32 → SI → SF → (Nat → Int64) → Prop, wp_LW_add p1 p2 p3 I F g P ∧ ∀ r5 I1 F1 g1, P r5 I1 F1 g1 → ∃ PM : Int32 → SI → SF → Prop, wp_MM_add p1 p2 p3 J G PM ∧ ∀ b6 J1 G1, PM b6 J1 G1 → ∃ PT : Int32 → SI → SF → Prop, wp_MM_thrown J1 G1 PT ∧ ∀ t5 J2 G2, PT t5 J2 G2 → t5 = r5 ∧ (r5 = 0 → g1 (0 : Int32).toNatClampNeg = b6.toInt64) ∧ Rel I1 F1 J2 G2
set_option maxHeartbeats 4000000 in
set_option maxRecDepth 100000 in
theorem lc_add {p : Program} {l : Launch} {e : Env} {s : State} {m : MethodId} {below : List Frame} {meth : Method} {c : Code} {Q : State → Prop} {D : va_G} {a b : Nat → Nat} {cI cZ cQ cJ : ClassId} {bs L n c0 s0 : Nat} {xs : Nat → Int32} (hlt : l.stackTraces = false) (hLC : LC p s m meth c D a b cI cZ cQ cJ bs L xs) (hn : 7 * n + 7 ≤ L) (hL : L ≤ 3584) (hc0 : c0 + 3 ≤ 601024) (hs0 : s0 + 18 ≤ 7293034) (Rel : SI → SF → SI → SF → Prop)
    (I : SI) (F : SF) (g : Nat → Int64) (J : SI) (G : SF) (H : Heap) (locs : List Loc) (ls : Array Slot) (hl : lv_has ls 7 [(4, .int (nI (7 * n))), (0, .ref bs), (1, .ref (a 0)), (2, .ref (b 0)), (3, .ref (a 47))]) (hA : lSt D a b cI cZ cQ cJ I F g J G H) (hS : va_S (fun q => s.heap.size ≤ q) s.heap H locs) (hw : wpl_add (xs (nI (7 * n) + 1).toNatClampNeg) (xs (nI (7 * n) + 2).toNatClampNeg) (xs (nI (7 * n) + 3).toNatClampNeg) I F g J G Rel)
    (kk : ∀ (I : SI) (F : SF) (g : Nat → Int64) (J : SI) (G : SF) (H : Heap) (locs : List Loc) (ls : Array Slot), lv_has ls 7 [(4, .int (nI (7 * n))), (0, .ref bs), (1, .ref (a 0)), (2, .ref (b 0)), (3, .ref (a 47))] → lSt D a b cI cZ cQ cJ I F g J G H → va_S (fun q => s.heap.size ≤ q) s.heap H locs → Rel I F J G → W p l e room_1 s m #[Value.ref bs] below meth c H locs (c0 + 3) (s0 + 18) Q (F0 m 1120 ls [])) : W p l e room_1 s m #[Value.ref bs] below meth c H locs c0 s0 Q (F0 m 237 ls []) := by
  obtain ⟨hx, hb, hml, hown, hts, hK, hN, hZ, hX, hC, hLA, hXs, hbs⟩ := hLC
  have hbA : ¬ s.heap.size ≤ bs := Nat.not_le.mpr hbs
  obtain ⟨P, hc, hw⟩ := hw
  refine lv_aload_n hx hb dL_237 rfl (lv_at hl 2 rfl) ?_
  refine lv_aload_n hx hb dL_238 rfl (lv_at hl 1 rfl) ?_
  refine lv_iload hx hb dL_239 (lv_at hl 0 rfl) ?_
  refine lv_iconst (v := 1) hx hb dL_241 (by decide) ?_
  refine lv_iadd hx hb dL_242 ?_
  refine va_sld hx hb hXs hbs hbA hS (xs_in (j := 1) hn hL (by decide)) dL_243 ?_
  refine lv_aload_n hx hb dL_244 rfl (lv_at hl 1 rfl) ?_
  refine lv_iload hx hb dL_245 (lv_at hl 0 rfl) ?_
  refine lv_iconst (v := 2) hx hb dL_247 (by decide) ?_
  refine lv_iadd hx hb dL_248 ?_
  refine va_sld hx hb hXs hbs hbA hS (xs_in (j := 2) hn hL (by decide)) dL_249 ?_
  refine lv_aload_n hx hb dL_250 rfl (lv_at hl 1 rfl) ?_
  refine lv_iload hx hb dL_251 (lv_at hl 0 rfl) ?_
  refine lv_iconst (v := 3) hx hb dL_253 (by decide) ?_
  refine lv_iadd hx hb dL_254 ?_
  refine va_sld hx hb hXs hbs hbA hS (xs_in (j := 3) hn hL (by decide)) dL_255 ?_
  refine lv_aload_n hx hb dL_256 rfl (lv_at hl 4 rfl) ?_
  refine ll_w (xw_runS (n := 5) (As := [.ref (a 0), .int (xs (nI (7 * n) + 1).toNatClampNeg), .int (xs (nI (7 * n) + 2).toNatClampNeg), .int (xs (nI (7 * n) + 3).toNatClampNeg), .ref (a 47)]) (rest := []) ⟨hx, hb, hml, hown, hts⟩ (c_LW_add l hlt D a cI cZ cQ cJ hLA.1 I F g (xs (nI (7 * n) + 1).toNatClampNeg) (xs (nI (7 * n) + 2).toNatClampNeg) (xs (nI (7 * n) + 3).toNatClampNeg) H.size P hc) wc_LW_add (hts _ tw_2_95) (hts _ tw_2_96) (hts _ tw_1_0) rfl rfl (by decide) (by decide +kernel) (by decide) (by decide) ⟨lP_bl, ll_at hA hK hN hZ hX hC hLA hS⟩ rfl rfl hl.1 rfl (lv_room (Nat.le_of_ble_eq_true rfl)) dL_257 ⟨by show _ ≤ 601024; omega, by show _ ≤ 7293034; omega⟩) hLA hA hS (fun r5 I F g H locs hA hp hS => ?_)
  obtain ⟨PM, hc, hw⟩ := hw r5 I F g hp
  refine lv_istore (lv' := [(5, .int r5), (4, .int (nI (7 * n))), (0, .ref bs), (1, .ref (a 0)), (2, .ref (b 0)), (3, .ref (a 47))]) hx hb dL_260 hl (by decide) rfl (fun ls hl => ?_)
  refine lv_aload_n hx hb dL_262 rfl (lv_at hl 4 rfl) ?_
  refine lv_aload_n hx hb dL_263 rfl (lv_at hl 2 rfl) ?_
  refine lv_iload hx hb dL_264 (lv_at hl 1 rfl) ?_
  refine lv_iconst (v := 1) hx hb dL_266 (by decide) ?_
  refine lv_iadd hx hb dL_267 ?_
  refine va_sld hx hb hXs hbs hbA hS (xs_in (j := 1) hn hL (by decide)) dL_268 ?_
  refine lv_aload_n hx hb dL_269 rfl (lv_at hl 2 rfl) ?_
  refine lv_iload hx hb dL_270 (lv_at hl 1 rfl) ?_
  refine lv_iconst (v := 2) hx hb dL_272 (by decide) ?_
  refine lv_iadd hx hb dL_273 ?_
  refine va_sld hx hb hXs hbs hbA hS (xs_in (j := 2) hn hL (by decide)) dL_274 ?_
  refine lv_aload_n hx hb dL_275 rfl (lv_at hl 2 rfl) ?_
  refine lv_iload hx hb dL_276 (lv_at hl 1 rfl) ?_
  refine lv_iconst (v := 3) hx hb dL_278 (by decide) ?_
  refine lv_iadd hx hb dL_279 ?_
  refine va_sld hx hb hXs hbs hbA hS (xs_in (j := 3) hn hL (by decide)) dL_280 ?_
  refine ll_i (va_runV (As := [.int (xs (nI (7 * n) + 1).toNatClampNeg), .int (xs (nI (7 * n) + 2).toNatClampNeg), .int (xs (nI (7 * n) + 3).toNatClampNeg)]) (rest := []) ⟨hx, hb, hml, hown, hts⟩ (c_MM_add l D b cI cZ hLA.2.1 J G (xs (nI (7 * n) + 1).toNatClampNeg) (xs (nI (7 * n) + 2).toNatClampNeg) (xs (nI (7 * n) + 3).toNatClampNeg) H.size PM hc) (cwV 3 hts (tb_V (C := "CodeJudgeModel") wc_MM_add tw_4_192 tw_4_193 tw_4_194 tw_1_9) rfl rfl rfl (by decide +kernel) ⟨(Nat.le_of_ble_eq_true rfl), (Nat.le_of_ble_eq_true rfl)⟩) ⟨mP_bl, va_recv hK hA.2 rfl mw_0, ll_mat hA hK⟩ rfl rfl hl.1 rfl (lv_room (Nat.le_of_ble_eq_true rfl)) dL_281 ⟨by show _ ≤ 601024; omega, by show _ ≤ 7293034; omega⟩) hLA hA hS (fun b6 J G H locs hA hp hS => ?_)
  obtain ⟨PT, hc, hw⟩ := hw b6 J G hp
  refine lv_istore (lv' := [(6, .int b6), (5, .int r5), (4, .int (nI (7 * n))), (0, .ref bs), (1, .ref (a 0)), (2, .ref (b 0)), (3, .ref (a 47))]) hx hb dL_284 hl (by decide) rfl (fun ls hl => ?_)
  refine lv_aload_n hx hb dL_286 rfl (lv_at hl 5 rfl) ?_
  refine ll_i (va_runV (As := []) (rest := []) ⟨hx, hb, hml, hown, hts⟩ (c_MM_thrown l D b cI cZ hLA.2.1 J G H.size PT hc) (cwV 0 hts (tb_V (C := "CodeJudgeModel") wc_MM_thrown tw_4_177 tw_4_178 tw_4_179 tw_1_9) rfl rfl rfl (by decide +kernel) ⟨(Nat.le_of_ble_eq_true rfl), (Nat.le_of_ble_eq_true rfl)⟩) ⟨mP_bl, va_recv hK hA.2 rfl mw_0, ll_mat hA hK⟩ rfl rfl hl.1 rfl (lv_room (Nat.le_of_ble_eq_true rfl)) dL_287 ⟨by show _ ≤ 601024; omega, by show _ ≤ 7293034; omega⟩) hLA hA hS (fun t5 J G H locs hA hp hS => ?_)
  obtain ⟨rfl, hz⟩ := hw t5 J G hp
  refine lv_iload hx hb dL_290 (lv_at hl 1 rfl) ?_
  refine lv_icmp_eq (tgt := 297) hx hb dL_292 (by decide) (fun _ => ?_) (fun h => absurd rfl h)
  refine lv_iload hx hb dL_297 (lv_at hl 1 rfl) ?_
  obtain ⟨hv, hw⟩ := hz
  refine lv_if_ne (tgt := 314) hx hb dL_299 (by decide) (fun h => ?_) (fun h => ?_)
  · refine lv_goto (tgt := 1120) hx hb dL_314 (by decide) ?_
    refine W.widen (k := c0 + 3) (n := s0 + 18) (by omega) (by omega) ?_
    exact kk I F g J G H locs ls (lv_sub hl [2, 3, 4, 5, 6] rfl) hA hS hw
  · have hv := hv h
    refine lv_aload_n hx hb dL_302 rfl (lv_at hl 6 rfl) ?_
    refine lv_iconst (v := 0) hx hb dL_303 (by decide) ?_
    refine va_lald hx hb hK hA.1 47 3 lw_47 rfl (by unfold vp_in; decide) dL_304 ?_
    refine lv_iload hx hb dL_305 (lv_at hl 0 rfl) ?_
    refine lv_i2l (v := b6.toInt64) hx hb dL_307 rfl ?_
    refine W.lcmp hx hb dL_308 ?_
    refine lv_if_eq (tgt := 314) hx hb dL_309 (by decide) (fun _ => ?_) (fun h => absurd (lg_eq (hv)) h)
    refine lv_goto (tgt := 1120) hx hb dL_314 (by decide) ?_
    refine W.widen (k := c0 + 3) (n := s0 + 18) (by omega) (by omega) ?_
    exact kk I F g J G H locs ls (lv_sub hl [2, 3, 4, 5, 6] rfl) hA hS hw
def wpl_patch (p1 : Int32) (p2 : Int32) (p3 : Int32) (I : SI) (F : SF) (g : Nat → Int64) (J : SI) (G : SF) (Rel : SI → SF → SI → SF → Prop) : Prop := ∃ P : Int32 → SI → SF → (Nat → Int64) → Prop, wp_LW_patch p1 p2 p3 I F g P ∧ ∀ r5 I1 F1 g1, P r5 I1 F1 g1 → ∃ PM : Int32 → SI → SF → Prop, wp_MM_patch p1 p2 p3 J G PM ∧ ∀ b6 J1 G1, PM b6 J1 G1 → ∃ PT : Int32 → SI → SF → Prop, wp_MM_thrown J1 G1 PT ∧ ∀ t5 J2 G2, PT t5 J2 G2 → t5 = r5 ∧ (r5 = 0 → g1 (0 : Int32).toNatClampNeg = b6.toInt64) ∧ Rel I1 F1 J2 G2
set_option maxHeartbeats 4000000 in
set_option maxRecDepth 100000 in
theorem lc_patch {p : Program} {l : Launch} {e : Env} {s : State} {m : MethodId} {below : List Frame} {meth : Method} {c : Code} {Q : State → Prop} {D : va_G} {a b : Nat → Nat} {cI cZ cQ cJ : ClassId} {bs L n c0 s0 : Nat} {xs : Nat → Int32} (hlt : l.stackTraces = false) (hLC : LC p s m meth c D a b cI cZ cQ cJ bs L xs) (hn : 7 * n + 7 ≤ L) (hL : L ≤ 3584) (hc0 : c0 + 3 ≤ 601024) (hs0 : s0 + 18 ≤ 7293034) (Rel : SI → SF → SI → SF → Prop)
    (I : SI) (F : SF) (g : Nat → Int64) (J : SI) (G : SF) (H : Heap) (locs : List Loc) (ls : Array Slot) (hl : lv_has ls 7 [(4, .int (nI (7 * n))), (0, .ref bs), (1, .ref (a 0)), (2, .ref (b 0)), (3, .ref (a 47))]) (hA : lSt D a b cI cZ cQ cJ I F g J G H) (hS : va_S (fun q => s.heap.size ≤ q) s.heap H locs) (hw : wpl_patch (xs (nI (7 * n) + 1).toNatClampNeg) (xs (nI (7 * n) + 2).toNatClampNeg) (xs (nI (7 * n) + 3).toNatClampNeg) I F g J G Rel)
    (kk : ∀ (I : SI) (F : SF) (g : Nat → Int64) (J : SI) (G : SF) (H : Heap) (locs : List Loc) (ls : Array Slot), lv_has ls 7 [(4, .int (nI (7 * n))), (0, .ref bs), (1, .ref (a 0)), (2, .ref (b 0)), (3, .ref (a 47))] → lSt D a b cI cZ cQ cJ I F g J G H → va_S (fun q => s.heap.size ≤ q) s.heap H locs → Rel I F J G → W p l e room_1 s m #[Value.ref bs] below meth c H locs (c0 + 3) (s0 + 18) Q (F0 m 1120 ls [])) : W p l e room_1 s m #[Value.ref bs] below meth c H locs c0 s0 Q (F0 m 317 ls []) := by
  obtain ⟨hx, hb, hml, hown, hts, hK, hN, hZ, hX, hC, hLA, hXs, hbs⟩ := hLC
  have hbA : ¬ s.heap.size ≤ bs := Nat.not_le.mpr hbs
  obtain ⟨P, hc, hw⟩ := hw
  refine lv_aload_n hx hb dL_317 rfl (lv_at hl 2 rfl) ?_
  refine lv_aload_n hx hb dL_318 rfl (lv_at hl 1 rfl) ?_
  refine lv_iload hx hb dL_319 (lv_at hl 0 rfl) ?_
  refine lv_iconst (v := 1) hx hb dL_321 (by decide) ?_
  refine lv_iadd hx hb dL_322 ?_
  refine va_sld hx hb hXs hbs hbA hS (xs_in (j := 1) hn hL (by decide)) dL_323 ?_
  refine lv_aload_n hx hb dL_324 rfl (lv_at hl 1 rfl) ?_
  refine lv_iload hx hb dL_325 (lv_at hl 0 rfl) ?_
  refine lv_iconst (v := 2) hx hb dL_327 (by decide) ?_
  refine lv_iadd hx hb dL_328 ?_
  refine va_sld hx hb hXs hbs hbA hS (xs_in (j := 2) hn hL (by decide)) dL_329 ?_
  refine lv_aload_n hx hb dL_330 rfl (lv_at hl 1 rfl) ?_
  refine lv_iload hx hb dL_331 (lv_at hl 0 rfl) ?_
  refine lv_iconst (v := 3) hx hb dL_333 (by decide) ?_
  refine lv_iadd hx hb dL_334 ?_
  refine va_sld hx hb hXs hbs hbA hS (xs_in (j := 3) hn hL (by decide)) dL_335 ?_
  refine lv_aload_n hx hb dL_336 rfl (lv_at hl 4 rfl) ?_
  refine ll_w (xw_runS (n := 5) (As := [.ref (a 0), .int (xs (nI (7 * n) + 1).toNatClampNeg), .int (xs (nI (7 * n) + 2).toNatClampNeg), .int (xs (nI (7 * n) + 3).toNatClampNeg), .ref (a 47)]) (rest := []) ⟨hx, hb, hml, hown, hts⟩ (c_LW_patch l hlt D a cI cZ cQ cJ hLA.1 I F g (xs (nI (7 * n) + 1).toNatClampNeg) (xs (nI (7 * n) + 2).toNatClampNeg) (xs (nI (7 * n) + 3).toNatClampNeg) H.size P hc) wc_LW_patch (hts _ tw_2_126) (hts _ tw_2_127) (hts _ tw_1_0) rfl rfl (by decide) (by decide +kernel) (by decide) (by decide) ⟨lP_bl, ll_at hA hK hN hZ hX hC hLA hS⟩ rfl rfl hl.1 rfl (lv_room (Nat.le_of_ble_eq_true rfl)) dL_337 ⟨by show _ ≤ 601024; omega, by show _ ≤ 7293034; omega⟩) hLA hA hS (fun r5 I F g H locs hA hp hS => ?_)
  obtain ⟨PM, hc, hw⟩ := hw r5 I F g hp
  refine lv_istore (lv' := [(5, .int r5), (4, .int (nI (7 * n))), (0, .ref bs), (1, .ref (a 0)), (2, .ref (b 0)), (3, .ref (a 47))]) hx hb dL_340 hl (by decide) rfl (fun ls hl => ?_)
  refine lv_aload_n hx hb dL_342 rfl (lv_at hl 4 rfl) ?_
  refine lv_aload_n hx hb dL_343 rfl (lv_at hl 2 rfl) ?_
  refine lv_iload hx hb dL_344 (lv_at hl 1 rfl) ?_
  refine lv_iconst (v := 1) hx hb dL_346 (by decide) ?_
  refine lv_iadd hx hb dL_347 ?_
  refine va_sld hx hb hXs hbs hbA hS (xs_in (j := 1) hn hL (by decide)) dL_348 ?_
  refine lv_aload_n hx hb dL_349 rfl (lv_at hl 2 rfl) ?_
  refine lv_iload hx hb dL_350 (lv_at hl 1 rfl) ?_
  refine lv_iconst (v := 2) hx hb dL_352 (by decide) ?_
  refine lv_iadd hx hb dL_353 ?_
  refine va_sld hx hb hXs hbs hbA hS (xs_in (j := 2) hn hL (by decide)) dL_354 ?_
  refine lv_aload_n hx hb dL_355 rfl (lv_at hl 2 rfl) ?_
  refine lv_iload hx hb dL_356 (lv_at hl 1 rfl) ?_
  refine lv_iconst (v := 3) hx hb dL_358 (by decide) ?_
  refine lv_iadd hx hb dL_359 ?_
  refine va_sld hx hb hXs hbs hbA hS (xs_in (j := 3) hn hL (by decide)) dL_360 ?_
  refine ll_i (va_runV (As := [.int (xs (nI (7 * n) + 1).toNatClampNeg), .int (xs (nI (7 * n) + 2).toNatClampNeg), .int (xs (nI (7 * n) + 3).toNatClampNeg)]) (rest := []) ⟨hx, hb, hml, hown, hts⟩ (c_MM_patch l D b cI cZ hLA.2.1 J G (xs (nI (7 * n) + 1).toNatClampNeg) (xs (nI (7 * n) + 2).toNatClampNeg) (xs (nI (7 * n) + 3).toNatClampNeg) H.size PM hc) (cwV 3 hts (tb_V (C := "CodeJudgeModel") wc_MM_patch tw_4_200 tw_4_201 tw_4_202 tw_1_9) rfl rfl rfl (by decide +kernel) ⟨(Nat.le_of_ble_eq_true rfl), (Nat.le_of_ble_eq_true rfl)⟩) ⟨mP_bl, va_recv hK hA.2 rfl mw_0, ll_mat hA hK⟩ rfl rfl hl.1 rfl (lv_room (Nat.le_of_ble_eq_true rfl)) dL_361 ⟨by show _ ≤ 601024; omega, by show _ ≤ 7293034; omega⟩) hLA hA hS (fun b6 J G H locs hA hp hS => ?_)
  obtain ⟨PT, hc, hw⟩ := hw b6 J G hp
  refine lv_istore (lv' := [(6, .int b6), (5, .int r5), (4, .int (nI (7 * n))), (0, .ref bs), (1, .ref (a 0)), (2, .ref (b 0)), (3, .ref (a 47))]) hx hb dL_364 hl (by decide) rfl (fun ls hl => ?_)
  refine lv_aload_n hx hb dL_366 rfl (lv_at hl 5 rfl) ?_
  refine ll_i (va_runV (As := []) (rest := []) ⟨hx, hb, hml, hown, hts⟩ (c_MM_thrown l D b cI cZ hLA.2.1 J G H.size PT hc) (cwV 0 hts (tb_V (C := "CodeJudgeModel") wc_MM_thrown tw_4_177 tw_4_178 tw_4_179 tw_1_9) rfl rfl rfl (by decide +kernel) ⟨(Nat.le_of_ble_eq_true rfl), (Nat.le_of_ble_eq_true rfl)⟩) ⟨mP_bl, va_recv hK hA.2 rfl mw_0, ll_mat hA hK⟩ rfl rfl hl.1 rfl (lv_room (Nat.le_of_ble_eq_true rfl)) dL_367 ⟨by show _ ≤ 601024; omega, by show _ ≤ 7293034; omega⟩) hLA hA hS (fun t5 J G H locs hA hp hS => ?_)
  obtain ⟨rfl, hz⟩ := hw t5 J G hp
  refine lv_iload hx hb dL_370 (lv_at hl 1 rfl) ?_
  refine lv_icmp_eq (tgt := 377) hx hb dL_372 (by decide) (fun _ => ?_) (fun h => absurd rfl h)
  refine lv_iload hx hb dL_377 (lv_at hl 1 rfl) ?_
  obtain ⟨hv, hw⟩ := hz
  refine lv_if_ne (tgt := 394) hx hb dL_379 (by decide) (fun h => ?_) (fun h => ?_)
  · refine lv_goto (tgt := 1120) hx hb dL_394 (by decide) ?_
    refine W.widen (k := c0 + 3) (n := s0 + 18) (by omega) (by omega) ?_
    exact kk I F g J G H locs ls (lv_sub hl [2, 3, 4, 5, 6] rfl) hA hS hw
  · have hv := hv h
    refine lv_aload_n hx hb dL_382 rfl (lv_at hl 6 rfl) ?_
    refine lv_iconst (v := 0) hx hb dL_383 (by decide) ?_
    refine va_lald hx hb hK hA.1 47 3 lw_47 rfl (by unfold vp_in; decide) dL_384 ?_
    refine lv_iload hx hb dL_385 (lv_at hl 0 rfl) ?_
    refine lv_i2l (v := b6.toInt64) hx hb dL_387 rfl ?_
    refine W.lcmp hx hb dL_388 ?_
    refine lv_if_eq (tgt := 394) hx hb dL_389 (by decide) (fun _ => ?_) (fun h => absurd (lg_eq (hv)) h)
    refine lv_goto (tgt := 1120) hx hb dL_394 (by decide) ?_
    refine W.widen (k := c0 + 3) (n := s0 + 18) (by omega) (by omega) ?_
    exact kk I F g J G H locs ls (lv_sub hl [2, 3, 4, 5, 6] rfl) hA hS hw
def wpl_drop (p1 : Int32) (I : SI) (F : SF) (g : Nat → Int64) (J : SI) (G : SF) (Rel : SI → SF → SI → SF → Prop) : Prop := ∃ P : Int32 → SI → SF → (Nat → Int64) → Prop, wp_LW_drop p1 I F g P ∧ ∀ r5 I1 F1 g1, P r5 I1 F1 g1 → ∃ PM : Int32 → SI → SF → Prop, wp_MM_drop p1 J G PM ∧ ∀ b6 J1 G1, PM b6 J1 G1 → ∃ PT : Int32 → SI → SF → Prop, wp_MM_thrown J1 G1 PT ∧ ∀ t5 J2 G2, PT t5 J2 G2 → t5 = r5 ∧ (r5 = 0 → g1 (0 : Int32).toNatClampNeg = b6.toInt64) ∧ Rel I1 F1 J2 G2
set_option maxHeartbeats 4000000 in
set_option maxRecDepth 100000 in
theorem lc_drop {p : Program} {l : Launch} {e : Env} {s : State} {m : MethodId} {below : List Frame} {meth : Method} {c : Code} {Q : State → Prop} {D : va_G} {a b : Nat → Nat} {cI cZ cQ cJ : ClassId} {bs L n c0 s0 : Nat} {xs : Nat → Int32} (hlt : l.stackTraces = false) (hLC : LC p s m meth c D a b cI cZ cQ cJ bs L xs) (hn : 7 * n + 7 ≤ L) (hL : L ≤ 3584) (hc0 : c0 + 3 ≤ 601024) (hs0 : s0 + 18 ≤ 7293034) (Rel : SI → SF → SI → SF → Prop)
    (I : SI) (F : SF) (g : Nat → Int64) (J : SI) (G : SF) (H : Heap) (locs : List Loc) (ls : Array Slot) (hl : lv_has ls 7 [(4, .int (nI (7 * n))), (0, .ref bs), (1, .ref (a 0)), (2, .ref (b 0)), (3, .ref (a 47))]) (hA : lSt D a b cI cZ cQ cJ I F g J G H) (hS : va_S (fun q => s.heap.size ≤ q) s.heap H locs) (hw : wpl_drop (xs (nI (7 * n) + 1).toNatClampNeg) I F g J G Rel)
    (kk : ∀ (I : SI) (F : SF) (g : Nat → Int64) (J : SI) (G : SF) (H : Heap) (locs : List Loc) (ls : Array Slot), lv_has ls 7 [(4, .int (nI (7 * n))), (0, .ref bs), (1, .ref (a 0)), (2, .ref (b 0)), (3, .ref (a 47))] → lSt D a b cI cZ cQ cJ I F g J G H → va_S (fun q => s.heap.size ≤ q) s.heap H locs → Rel I F J G → W p l e room_1 s m #[Value.ref bs] below meth c H locs (c0 + 3) (s0 + 18) Q (F0 m 1120 ls [])) : W p l e room_1 s m #[Value.ref bs] below meth c H locs c0 s0 Q (F0 m 397 ls []) := by
  obtain ⟨hx, hb, hml, hown, hts, hK, hN, hZ, hX, hC, hLA, hXs, hbs⟩ := hLC
  have hbA : ¬ s.heap.size ≤ bs := Nat.not_le.mpr hbs
  obtain ⟨P, hc, hw⟩ := hw
  refine lv_aload_n hx hb dL_397 rfl (lv_at hl 2 rfl) ?_
  refine lv_aload_n hx hb dL_398 rfl (lv_at hl 1 rfl) ?_
  refine lv_iload hx hb dL_399 (lv_at hl 0 rfl) ?_
  refine lv_iconst (v := 1) hx hb dL_401 (by decide) ?_
  refine lv_iadd hx hb dL_402 ?_
  refine va_sld hx hb hXs hbs hbA hS (xs_in (j := 1) hn hL (by decide)) dL_403 ?_
  refine lv_aload_n hx hb dL_404 rfl (lv_at hl 4 rfl) ?_
  refine ll_w (xw_runS (n := 3) (As := [.ref (a 0), .int (xs (nI (7 * n) + 1).toNatClampNeg), .ref (a 47)]) (rest := []) ⟨hx, hb, hml, hown, hts⟩ (c_LW_drop l hlt D a cI cZ cQ cJ hLA.1 I F g (xs (nI (7 * n) + 1).toNatClampNeg) H.size P hc) wc_LW_drop (hts _ tw_2_151) (hts _ tw_2_152) (hts _ tw_1_0) rfl rfl (by decide) (by decide +kernel) (by decide) (by decide) ⟨lP_bl, ll_at hA hK hN hZ hX hC hLA hS⟩ rfl rfl hl.1 rfl (lv_room (Nat.le_of_ble_eq_true rfl)) dL_405 ⟨by show _ ≤ 601024; omega, by show _ ≤ 7293034; omega⟩) hLA hA hS (fun r5 I F g H locs hA hp hS => ?_)
  obtain ⟨PM, hc, hw⟩ := hw r5 I F g hp
  refine lv_istore (lv' := [(5, .int r5), (4, .int (nI (7 * n))), (0, .ref bs), (1, .ref (a 0)), (2, .ref (b 0)), (3, .ref (a 47))]) hx hb dL_408 hl (by decide) rfl (fun ls hl => ?_)
  refine lv_aload_n hx hb dL_410 rfl (lv_at hl 4 rfl) ?_
  refine lv_aload_n hx hb dL_411 rfl (lv_at hl 2 rfl) ?_
  refine lv_iload hx hb dL_412 (lv_at hl 1 rfl) ?_
  refine lv_iconst (v := 1) hx hb dL_414 (by decide) ?_
  refine lv_iadd hx hb dL_415 ?_
  refine va_sld hx hb hXs hbs hbA hS (xs_in (j := 1) hn hL (by decide)) dL_416 ?_
  refine ll_i (va_runV (As := [.int (xs (nI (7 * n) + 1).toNatClampNeg)]) (rest := []) ⟨hx, hb, hml, hown, hts⟩ (c_MM_drop l D b cI cZ hLA.2.1 J G (xs (nI (7 * n) + 1).toNatClampNeg) H.size PM hc) (cwV 1 hts (tb_V (C := "CodeJudgeModel") wc_MM_drop tw_4_208 tw_4_209 tw_4_210 tw_1_9) rfl rfl rfl (by decide +kernel) ⟨(Nat.le_of_ble_eq_true rfl), (Nat.le_of_ble_eq_true rfl)⟩) ⟨mP_bl, va_recv hK hA.2 rfl mw_0, ll_mat hA hK⟩ rfl rfl hl.1 rfl (lv_room (Nat.le_of_ble_eq_true rfl)) dL_417 ⟨by show _ ≤ 601024; omega, by show _ ≤ 7293034; omega⟩) hLA hA hS (fun b6 J G H locs hA hp hS => ?_)
  obtain ⟨PT, hc, hw⟩ := hw b6 J G hp
  refine lv_istore (lv' := [(6, .int b6), (5, .int r5), (4, .int (nI (7 * n))), (0, .ref bs), (1, .ref (a 0)), (2, .ref (b 0)), (3, .ref (a 47))]) hx hb dL_420 hl (by decide) rfl (fun ls hl => ?_)
  refine lv_aload_n hx hb dL_422 rfl (lv_at hl 5 rfl) ?_
  refine ll_i (va_runV (As := []) (rest := []) ⟨hx, hb, hml, hown, hts⟩ (c_MM_thrown l D b cI cZ hLA.2.1 J G H.size PT hc) (cwV 0 hts (tb_V (C := "CodeJudgeModel") wc_MM_thrown tw_4_177 tw_4_178 tw_4_179 tw_1_9) rfl rfl rfl (by decide +kernel) ⟨(Nat.le_of_ble_eq_true rfl), (Nat.le_of_ble_eq_true rfl)⟩) ⟨mP_bl, va_recv hK hA.2 rfl mw_0, ll_mat hA hK⟩ rfl rfl hl.1 rfl (lv_room (Nat.le_of_ble_eq_true rfl)) dL_423 ⟨by show _ ≤ 601024; omega, by show _ ≤ 7293034; omega⟩) hLA hA hS (fun t5 J G H locs hA hp hS => ?_)
  obtain ⟨rfl, hz⟩ := hw t5 J G hp
  refine lv_iload hx hb dL_426 (lv_at hl 1 rfl) ?_
  refine lv_icmp_eq (tgt := 433) hx hb dL_428 (by decide) (fun _ => ?_) (fun h => absurd rfl h)
  refine lv_iload hx hb dL_433 (lv_at hl 1 rfl) ?_
  obtain ⟨hv, hw⟩ := hz
  refine lv_if_ne (tgt := 450) hx hb dL_435 (by decide) (fun h => ?_) (fun h => ?_)
  · refine lv_goto (tgt := 1120) hx hb dL_450 (by decide) ?_
    refine W.widen (k := c0 + 3) (n := s0 + 18) (by omega) (by omega) ?_
    exact kk I F g J G H locs ls (lv_sub hl [2, 3, 4, 5, 6] rfl) hA hS hw
  · have hv := hv h
    refine lv_aload_n hx hb dL_438 rfl (lv_at hl 6 rfl) ?_
    refine lv_iconst (v := 0) hx hb dL_439 (by decide) ?_
    refine va_lald hx hb hK hA.1 47 3 lw_47 rfl (by unfold vp_in; decide) dL_440 ?_
    refine lv_iload hx hb dL_441 (lv_at hl 0 rfl) ?_
    refine lv_i2l (v := b6.toInt64) hx hb dL_443 rfl ?_
    refine W.lcmp hx hb dL_444 ?_
    refine lv_if_eq (tgt := 450) hx hb dL_445 (by decide) (fun _ => ?_) (fun h => absurd (lg_eq (hv)) h)
    refine lv_goto (tgt := 1120) hx hb dL_450 (by decide) ?_
    refine W.widen (k := c0 + 3) (n := s0 + 18) (by omega) (by omega) ?_
    exact kk I F g J G H locs ls (lv_sub hl [2, 3, 4, 5, 6] rfl) hA hS hw
def wpl_good (p1 : Int32) (I : SI) (F : SF) (g : Nat → Int64) (J : SI) (G : SF) (Rel : SI → SF → SI → SF → Prop) : Prop := ∃ P : Int32 → SI → SF → (Nat → Int64) → Prop, wp_LW_good p1 I F g P ∧ ∀ r5 I1 F1 g1, P r5 I1 F1 g1 → ∃ PM : Int32 → SI → SF → Prop, wp_MM_good p1 J G PM ∧ ∀ b6 J1 G1, PM b6 J1 G1 → ∃ PT : Int32 → SI → SF → Prop, wp_MM_thrown J1 G1 PT ∧ ∀ t5 J2 G2, PT t5 J2 G2 → t5 = r5 ∧ (r5 = 0 → ((b6 = 0 → g1 (0 : Int32).toNatClampNeg = 0) ∧ (¬ b6 = 0 → g1 (0 : Int32).toNatClampNeg = 1))) ∧ Rel I1 F1 J2 G2
set_option maxHeartbeats 4000000 in
set_option maxRecDepth 100000 in
theorem lc_good {p : Program} {l : Launch} {e : Env} {s : State} {m : MethodId} {below : List Frame} {meth : Method} {c : Code} {Q : State → Prop} {D : va_G} {a b : Nat → Nat} {cI cZ cQ cJ : ClassId} {bs L n c0 s0 : Nat} {xs : Nat → Int32} (hlt : l.stackTraces = false) (hLC : LC p s m meth c D a b cI cZ cQ cJ bs L xs) (hn : 7 * n + 7 ≤ L) (hL : L ≤ 3584) (hc0 : c0 + 3 ≤ 601024) (hs0 : s0 + 18 ≤ 7293034) (Rel : SI → SF → SI → SF → Prop)
    (I : SI) (F : SF) (g : Nat → Int64) (J : SI) (G : SF) (H : Heap) (locs : List Loc) (ls : Array Slot) (hl : lv_has ls 7 [(4, .int (nI (7 * n))), (0, .ref bs), (1, .ref (a 0)), (2, .ref (b 0)), (3, .ref (a 47))]) (hA : lSt D a b cI cZ cQ cJ I F g J G H) (hS : va_S (fun q => s.heap.size ≤ q) s.heap H locs) (hw : wpl_good (xs (nI (7 * n) + 1).toNatClampNeg) I F g J G Rel)
    (kk : ∀ (I : SI) (F : SF) (g : Nat → Int64) (J : SI) (G : SF) (H : Heap) (locs : List Loc) (ls : Array Slot), lv_has ls 7 [(4, .int (nI (7 * n))), (0, .ref bs), (1, .ref (a 0)), (2, .ref (b 0)), (3, .ref (a 47))] → lSt D a b cI cZ cQ cJ I F g J G H → va_S (fun q => s.heap.size ≤ q) s.heap H locs → Rel I F J G → W p l e room_1 s m #[Value.ref bs] below meth c H locs (c0 + 3) (s0 + 18) Q (F0 m 1120 ls [])) : W p l e room_1 s m #[Value.ref bs] below meth c H locs c0 s0 Q (F0 m 453 ls []) := by
  obtain ⟨hx, hb, hml, hown, hts, hK, hN, hZ, hX, hC, hLA, hXs, hbs⟩ := hLC
  have hbA : ¬ s.heap.size ≤ bs := Nat.not_le.mpr hbs
  obtain ⟨P, hc, hw⟩ := hw
  refine lv_aload_n hx hb dL_453 rfl (lv_at hl 2 rfl) ?_
  refine lv_aload_n hx hb dL_454 rfl (lv_at hl 1 rfl) ?_
  refine lv_iload hx hb dL_455 (lv_at hl 0 rfl) ?_
  refine lv_iconst (v := 1) hx hb dL_457 (by decide) ?_
  refine lv_iadd hx hb dL_458 ?_
  refine va_sld hx hb hXs hbs hbA hS (xs_in (j := 1) hn hL (by decide)) dL_459 ?_
  refine lv_aload_n hx hb dL_460 rfl (lv_at hl 4 rfl) ?_
  refine ll_w (xw_runS (n := 3) (As := [.ref (a 0), .int (xs (nI (7 * n) + 1).toNatClampNeg), .ref (a 47)]) (rest := []) ⟨hx, hb, hml, hown, hts⟩ (c_LW_good l hlt D a cI cZ cQ cJ hLA.1 I F g (xs (nI (7 * n) + 1).toNatClampNeg) H.size P hc) wc_LW_good (hts _ tw_2_162) (hts _ tw_2_163) (hts _ tw_1_0) rfl rfl (by decide) (by decide +kernel) (by decide) (by decide) ⟨lP_bl, ll_at hA hK hN hZ hX hC hLA hS⟩ rfl rfl hl.1 rfl (lv_room (Nat.le_of_ble_eq_true rfl)) dL_461 ⟨by show _ ≤ 601024; omega, by show _ ≤ 7293034; omega⟩) hLA hA hS (fun r5 I F g H locs hA hp hS => ?_)
  obtain ⟨PM, hc, hw⟩ := hw r5 I F g hp
  refine lv_istore (lv' := [(5, .int r5), (4, .int (nI (7 * n))), (0, .ref bs), (1, .ref (a 0)), (2, .ref (b 0)), (3, .ref (a 47))]) hx hb dL_464 hl (by decide) rfl (fun ls hl => ?_)
  refine lv_aload_n hx hb dL_466 rfl (lv_at hl 4 rfl) ?_
  refine lv_aload_n hx hb dL_467 rfl (lv_at hl 2 rfl) ?_
  refine lv_iload hx hb dL_468 (lv_at hl 1 rfl) ?_
  refine lv_iconst (v := 1) hx hb dL_470 (by decide) ?_
  refine lv_iadd hx hb dL_471 ?_
  refine va_sld hx hb hXs hbs hbA hS (xs_in (j := 1) hn hL (by decide)) dL_472 ?_
  refine ll_i (va_runV (As := [.int (xs (nI (7 * n) + 1).toNatClampNeg)]) (rest := []) ⟨hx, hb, hml, hown, hts⟩ (c_MM_good l D b cI cZ hLA.2.1 J G (xs (nI (7 * n) + 1).toNatClampNeg) H.size PM hc) (cwV 1 hts (tb_V (C := "CodeJudgeModel") wc_MM_good tw_4_212 tw_4_213 tw_4_214 tw_1_9) rfl rfl rfl (by decide +kernel) ⟨(Nat.le_of_ble_eq_true rfl), (Nat.le_of_ble_eq_true rfl)⟩) ⟨mP_bl, va_recv hK hA.2 rfl mw_0, ll_mat hA hK⟩ rfl rfl hl.1 rfl (lv_room (Nat.le_of_ble_eq_true rfl)) dL_473 ⟨by show _ ≤ 601024; omega, by show _ ≤ 7293034; omega⟩) hLA hA hS (fun b6 J G H locs hA hp hS => ?_)
  obtain ⟨PT, hc, hw⟩ := hw b6 J G hp
  refine lv_istore (lv' := [(6, .int b6), (5, .int r5), (4, .int (nI (7 * n))), (0, .ref bs), (1, .ref (a 0)), (2, .ref (b 0)), (3, .ref (a 47))]) hx hb dL_476 hl (by decide) rfl (fun ls hl => ?_)
  refine lv_aload_n hx hb dL_478 rfl (lv_at hl 5 rfl) ?_
  refine ll_i (va_runV (As := []) (rest := []) ⟨hx, hb, hml, hown, hts⟩ (c_MM_thrown l D b cI cZ hLA.2.1 J G H.size PT hc) (cwV 0 hts (tb_V (C := "CodeJudgeModel") wc_MM_thrown tw_4_177 tw_4_178 tw_4_179 tw_1_9) rfl rfl rfl (by decide +kernel) ⟨(Nat.le_of_ble_eq_true rfl), (Nat.le_of_ble_eq_true rfl)⟩) ⟨mP_bl, va_recv hK hA.2 rfl mw_0, ll_mat hA hK⟩ rfl rfl hl.1 rfl (lv_room (Nat.le_of_ble_eq_true rfl)) dL_479 ⟨by show _ ≤ 601024; omega, by show _ ≤ 7293034; omega⟩) hLA hA hS (fun t5 J G H locs hA hp hS => ?_)
  obtain ⟨rfl, hz⟩ := hw t5 J G hp
  refine lv_iload hx hb dL_482 (lv_at hl 1 rfl) ?_
  refine lv_icmp_eq (tgt := 489) hx hb dL_484 (by decide) (fun _ => ?_) (fun h => absurd rfl h)
  refine lv_iload hx hb dL_489 (lv_at hl 1 rfl) ?_
  obtain ⟨hv, hw⟩ := hz
  refine lv_if_ne (tgt := 513) hx hb dL_491 (by decide) (fun h => ?_) (fun h => ?_)
  · refine lv_goto (tgt := 1120) hx hb dL_513 (by decide) ?_
    refine W.widen (k := c0 + 3) (n := s0 + 18) (by omega) (by omega) ?_
    exact kk I F g J G H locs ls (lv_sub hl [2, 3, 4, 5, 6] rfl) hA hS hw
  · have hv := hv h
    refine lv_aload_n hx hb dL_494 rfl (lv_at hl 6 rfl) ?_
    refine lv_iconst (v := 0) hx hb dL_495 (by decide) ?_
    refine va_lald hx hb hK hA.1 47 3 lw_47 rfl (by unfold vp_in; decide) dL_496 ?_
    refine lv_iload hx hb dL_497 (lv_at hl 0 rfl) ?_
    refine lv_if_eq (tgt := 506) hx hb dL_499 (by decide) (fun h6 => ?_) (fun h6 => ?_)
    · refine lv_lconst (v := 0) hx hb dL_506 rfl ?_
      refine W.lcmp hx hb dL_507 ?_
      refine lv_if_eq (tgt := 513) hx hb dL_508 (by decide) (fun _ => ?_) (fun h => absurd (lg_eq (hv.1 h6)) h)
      refine lv_goto (tgt := 1120) hx hb dL_513 (by decide) ?_
      refine W.widen (k := c0 + 3) (n := s0 + 18) (by omega) (by omega) ?_
      exact kk I F g J G H locs ls (lv_sub hl [2, 3, 4, 5, 6] rfl) hA hS hw
    · refine lv_lconst (v := 1) hx hb dL_502 rfl ?_
      refine lv_goto (tgt := 507) hx hb dL_503 (by decide) ?_
      refine W.lcmp hx hb dL_507 ?_
      refine lv_if_eq (tgt := 513) hx hb dL_508 (by decide) (fun _ => ?_) (fun h => absurd (lg_eq (hv.2 h6)) h)
      refine lv_goto (tgt := 1120) hx hb dL_513 (by decide) ?_
      refine W.widen (k := c0 + 3) (n := s0 + 18) (by omega) (by omega) ?_
      exact kk I F g J G H locs ls (lv_sub hl [2, 3, 4, 5, 6] rfl) hA hS hw
def wpl_height (p1 : Int32) (p2 : Int32) (I : SI) (F : SF) (g : Nat → Int64) (J : SI) (G : SF) (Rel : SI → SF → SI → SF → Prop) : Prop := ∃ P : Int32 → SI → SF → (Nat → Int64) → Prop, wp_LW_height p1 p2 I F g P ∧ ∀ r5 I1 F1 g1, P r5 I1 F1 g1 → ∃ PM : Int32 → SI → SF → Prop, wp_MM_height p1 p2 J G PM ∧ ∀ b6 J1 G1, PM b6 J1 G1 → ∃ PT : Int32 → SI → SF → Prop, wp_MM_thrown J1 G1 PT ∧ ∀ t5 J2 G2, PT t5 J2 G2 → t5 = r5 ∧ (r5 = 0 → g1 (0 : Int32).toNatClampNeg = b6.toInt64) ∧ Rel I1 F1 J2 G2
set_option maxHeartbeats 4000000 in
set_option maxRecDepth 100000 in
theorem lc_height {p : Program} {l : Launch} {e : Env} {s : State} {m : MethodId} {below : List Frame} {meth : Method} {c : Code} {Q : State → Prop} {D : va_G} {a b : Nat → Nat} {cI cZ cQ cJ : ClassId} {bs L n c0 s0 : Nat} {xs : Nat → Int32} (hlt : l.stackTraces = false) (hLC : LC p s m meth c D a b cI cZ cQ cJ bs L xs) (hn : 7 * n + 7 ≤ L) (hL : L ≤ 3584) (hc0 : c0 + 3 ≤ 601024) (hs0 : s0 + 18 ≤ 7293034) (Rel : SI → SF → SI → SF → Prop)
    (I : SI) (F : SF) (g : Nat → Int64) (J : SI) (G : SF) (H : Heap) (locs : List Loc) (ls : Array Slot) (hl : lv_has ls 7 [(4, .int (nI (7 * n))), (0, .ref bs), (1, .ref (a 0)), (2, .ref (b 0)), (3, .ref (a 47))]) (hA : lSt D a b cI cZ cQ cJ I F g J G H) (hS : va_S (fun q => s.heap.size ≤ q) s.heap H locs) (hw : wpl_height (xs (nI (7 * n) + 1).toNatClampNeg) (xs (nI (7 * n) + 2).toNatClampNeg) I F g J G Rel)
    (kk : ∀ (I : SI) (F : SF) (g : Nat → Int64) (J : SI) (G : SF) (H : Heap) (locs : List Loc) (ls : Array Slot), lv_has ls 7 [(4, .int (nI (7 * n))), (0, .ref bs), (1, .ref (a 0)), (2, .ref (b 0)), (3, .ref (a 47))] → lSt D a b cI cZ cQ cJ I F g J G H → va_S (fun q => s.heap.size ≤ q) s.heap H locs → Rel I F J G → W p l e room_1 s m #[Value.ref bs] below meth c H locs (c0 + 3) (s0 + 18) Q (F0 m 1120 ls [])) : W p l e room_1 s m #[Value.ref bs] below meth c H locs c0 s0 Q (F0 m 516 ls []) := by
  obtain ⟨hx, hb, hml, hown, hts, hK, hN, hZ, hX, hC, hLA, hXs, hbs⟩ := hLC
  have hbA : ¬ s.heap.size ≤ bs := Nat.not_le.mpr hbs
  obtain ⟨P, hc, hw⟩ := hw
  refine lv_aload_n hx hb dL_516 rfl (lv_at hl 2 rfl) ?_
  refine lv_aload_n hx hb dL_517 rfl (lv_at hl 1 rfl) ?_
  refine lv_iload hx hb dL_518 (lv_at hl 0 rfl) ?_
  refine lv_iconst (v := 1) hx hb dL_520 (by decide) ?_
  refine lv_iadd hx hb dL_521 ?_
  refine va_sld hx hb hXs hbs hbA hS (xs_in (j := 1) hn hL (by decide)) dL_522 ?_
  refine lv_aload_n hx hb dL_523 rfl (lv_at hl 1 rfl) ?_
  refine lv_iload hx hb dL_524 (lv_at hl 0 rfl) ?_
  refine lv_iconst (v := 2) hx hb dL_526 (by decide) ?_
  refine lv_iadd hx hb dL_527 ?_
  refine va_sld hx hb hXs hbs hbA hS (xs_in (j := 2) hn hL (by decide)) dL_528 ?_
  refine lv_aload_n hx hb dL_529 rfl (lv_at hl 4 rfl) ?_
  refine ll_w (xw_runS (n := 4) (As := [.ref (a 0), .int (xs (nI (7 * n) + 1).toNatClampNeg), .int (xs (nI (7 * n) + 2).toNatClampNeg), .ref (a 47)]) (rest := []) ⟨hx, hb, hml, hown, hts⟩ (c_LW_height l hlt D a cI cZ cQ cJ hLA.1 I F g (xs (nI (7 * n) + 1).toNatClampNeg) (xs (nI (7 * n) + 2).toNatClampNeg) H.size P hc) wc_LW_height (hts _ tw_3_10) (hts _ tw_3_11) (hts _ tw_1_0) rfl rfl (by decide) (by decide +kernel) (by decide) (by decide) ⟨lP_bl, ll_at hA hK hN hZ hX hC hLA hS⟩ rfl rfl hl.1 rfl (lv_room (Nat.le_of_ble_eq_true rfl)) dL_530 ⟨by show _ ≤ 601024; omega, by show _ ≤ 7293034; omega⟩) hLA hA hS (fun r5 I F g H locs hA hp hS => ?_)
  obtain ⟨PM, hc, hw⟩ := hw r5 I F g hp
  refine lv_istore (lv' := [(5, .int r5), (4, .int (nI (7 * n))), (0, .ref bs), (1, .ref (a 0)), (2, .ref (b 0)), (3, .ref (a 47))]) hx hb dL_533 hl (by decide) rfl (fun ls hl => ?_)
  refine lv_aload_n hx hb dL_535 rfl (lv_at hl 4 rfl) ?_
  refine lv_aload_n hx hb dL_536 rfl (lv_at hl 2 rfl) ?_
  refine lv_iload hx hb dL_537 (lv_at hl 1 rfl) ?_
  refine lv_iconst (v := 1) hx hb dL_539 (by decide) ?_
  refine lv_iadd hx hb dL_540 ?_
  refine va_sld hx hb hXs hbs hbA hS (xs_in (j := 1) hn hL (by decide)) dL_541 ?_
  refine lv_aload_n hx hb dL_542 rfl (lv_at hl 2 rfl) ?_
  refine lv_iload hx hb dL_543 (lv_at hl 1 rfl) ?_
  refine lv_iconst (v := 2) hx hb dL_545 (by decide) ?_
  refine lv_iadd hx hb dL_546 ?_
  refine va_sld hx hb hXs hbs hbA hS (xs_in (j := 2) hn hL (by decide)) dL_547 ?_
  refine ll_i (va_runV (As := [.int (xs (nI (7 * n) + 1).toNatClampNeg), .int (xs (nI (7 * n) + 2).toNatClampNeg)]) (rest := []) ⟨hx, hb, hml, hown, hts⟩ (c_MM_height l D b cI cZ hLA.2.1 J G (xs (nI (7 * n) + 1).toNatClampNeg) (xs (nI (7 * n) + 2).toNatClampNeg) H.size PM hc) (cwV 2 hts (tb_V (C := "CodeJudgeModel") wc_MM_height tw_5_12 tw_5_13 tw_5_14 tw_1_9) rfl rfl rfl (by decide +kernel) ⟨(Nat.le_of_ble_eq_true rfl), (Nat.le_of_ble_eq_true rfl)⟩) ⟨mP_bl, va_recv hK hA.2 rfl mw_0, ll_mat hA hK⟩ rfl rfl hl.1 rfl (lv_room (Nat.le_of_ble_eq_true rfl)) dL_548 ⟨by show _ ≤ 601024; omega, by show _ ≤ 7293034; omega⟩) hLA hA hS (fun b6 J G H locs hA hp hS => ?_)
  obtain ⟨PT, hc, hw⟩ := hw b6 J G hp
  refine lv_istore (lv' := [(6, .int b6), (5, .int r5), (4, .int (nI (7 * n))), (0, .ref bs), (1, .ref (a 0)), (2, .ref (b 0)), (3, .ref (a 47))]) hx hb dL_551 hl (by decide) rfl (fun ls hl => ?_)
  refine lv_aload_n hx hb dL_553 rfl (lv_at hl 5 rfl) ?_
  refine ll_i (va_runV (As := []) (rest := []) ⟨hx, hb, hml, hown, hts⟩ (c_MM_thrown l D b cI cZ hLA.2.1 J G H.size PT hc) (cwV 0 hts (tb_V (C := "CodeJudgeModel") wc_MM_thrown tw_4_177 tw_4_178 tw_4_179 tw_1_9) rfl rfl rfl (by decide +kernel) ⟨(Nat.le_of_ble_eq_true rfl), (Nat.le_of_ble_eq_true rfl)⟩) ⟨mP_bl, va_recv hK hA.2 rfl mw_0, ll_mat hA hK⟩ rfl rfl hl.1 rfl (lv_room (Nat.le_of_ble_eq_true rfl)) dL_554 ⟨by show _ ≤ 601024; omega, by show _ ≤ 7293034; omega⟩) hLA hA hS (fun t5 J G H locs hA hp hS => ?_)
  obtain ⟨rfl, hz⟩ := hw t5 J G hp
  refine lv_iload hx hb dL_557 (lv_at hl 1 rfl) ?_
  refine lv_icmp_eq (tgt := 564) hx hb dL_559 (by decide) (fun _ => ?_) (fun h => absurd rfl h)
  refine lv_iload hx hb dL_564 (lv_at hl 1 rfl) ?_
  obtain ⟨hv, hw⟩ := hz
  refine lv_if_ne (tgt := 581) hx hb dL_566 (by decide) (fun h => ?_) (fun h => ?_)
  · refine lv_goto (tgt := 1120) hx hb dL_581 (by decide) ?_
    refine W.widen (k := c0 + 3) (n := s0 + 18) (by omega) (by omega) ?_
    exact kk I F g J G H locs ls (lv_sub hl [2, 3, 4, 5, 6] rfl) hA hS hw
  · have hv := hv h
    refine lv_aload_n hx hb dL_569 rfl (lv_at hl 6 rfl) ?_
    refine lv_iconst (v := 0) hx hb dL_570 (by decide) ?_
    refine va_lald hx hb hK hA.1 47 3 lw_47 rfl (by unfold vp_in; decide) dL_571 ?_
    refine lv_iload hx hb dL_572 (lv_at hl 0 rfl) ?_
    refine lv_i2l (v := b6.toInt64) hx hb dL_574 rfl ?_
    refine W.lcmp hx hb dL_575 ?_
    refine lv_if_eq (tgt := 581) hx hb dL_576 (by decide) (fun _ => ?_) (fun h => absurd (lg_eq (hv)) h)
    refine lv_goto (tgt := 1120) hx hb dL_581 (by decide) ?_
    refine W.widen (k := c0 + 3) (n := s0 + 18) (by omega) (by omega) ?_
    exact kk I F g J G H locs ls (lv_sub hl [2, 3, 4, 5, 6] rfl) hA hS hw
def wpl_type (p1 : Int32) (p2 : Int32) (p3 : Int32) (p4 : Int32) (I : SI) (F : SF) (g : Nat → Int64) (J : SI) (G : SF) (Rel : SI → SF → SI → SF → Prop) : Prop := ∃ P : Int32 → SI → SF → (Nat → Int64) → Prop, wp_LW_type p1 p2 p3 p4 I F g P ∧ ∀ r5 I1 F1 g1, P r5 I1 F1 g1 → ∃ PM : Int32 → SI → SF → Prop, wp_MM_type p1 p2 p3 p4 J G PM ∧ ∀ b6 J1 G1, PM b6 J1 G1 → ∃ PT : Int32 → SI → SF → Prop, wp_MM_thrown J1 G1 PT ∧ ∀ t5 J2 G2, PT t5 J2 G2 → t5 = r5 ∧ (r5 = 0 → g1 (0 : Int32).toNatClampNeg = b6.toInt64) ∧ Rel I1 F1 J2 G2
set_option maxHeartbeats 4000000 in
set_option maxRecDepth 100000 in
theorem lc_type {p : Program} {l : Launch} {e : Env} {s : State} {m : MethodId} {below : List Frame} {meth : Method} {c : Code} {Q : State → Prop} {D : va_G} {a b : Nat → Nat} {cI cZ cQ cJ : ClassId} {bs L n c0 s0 : Nat} {xs : Nat → Int32} (hlt : l.stackTraces = false) (hLC : LC p s m meth c D a b cI cZ cQ cJ bs L xs) (hn : 7 * n + 7 ≤ L) (hL : L ≤ 3584) (hc0 : c0 + 3 ≤ 601024) (hs0 : s0 + 18 ≤ 7293034) (Rel : SI → SF → SI → SF → Prop)
    (I : SI) (F : SF) (g : Nat → Int64) (J : SI) (G : SF) (H : Heap) (locs : List Loc) (ls : Array Slot) (hl : lv_has ls 7 [(4, .int (nI (7 * n))), (0, .ref bs), (1, .ref (a 0)), (2, .ref (b 0)), (3, .ref (a 47))]) (hA : lSt D a b cI cZ cQ cJ I F g J G H) (hS : va_S (fun q => s.heap.size ≤ q) s.heap H locs) (hw : wpl_type (xs (nI (7 * n) + 1).toNatClampNeg) (xs (nI (7 * n) + 2).toNatClampNeg) (xs (nI (7 * n) + 3).toNatClampNeg) (xs (nI (7 * n) + 4).toNatClampNeg) I F g J G Rel)
    (kk : ∀ (I : SI) (F : SF) (g : Nat → Int64) (J : SI) (G : SF) (H : Heap) (locs : List Loc) (ls : Array Slot), lv_has ls 7 [(4, .int (nI (7 * n))), (0, .ref bs), (1, .ref (a 0)), (2, .ref (b 0)), (3, .ref (a 47))] → lSt D a b cI cZ cQ cJ I F g J G H → va_S (fun q => s.heap.size ≤ q) s.heap H locs → Rel I F J G → W p l e room_1 s m #[Value.ref bs] below meth c H locs (c0 + 3) (s0 + 18) Q (F0 m 1120 ls [])) : W p l e room_1 s m #[Value.ref bs] below meth c H locs c0 s0 Q (F0 m 584 ls []) := by
  obtain ⟨hx, hb, hml, hown, hts, hK, hN, hZ, hX, hC, hLA, hXs, hbs⟩ := hLC
  have hbA : ¬ s.heap.size ≤ bs := Nat.not_le.mpr hbs
  obtain ⟨P, hc, hw⟩ := hw
  refine lv_aload_n hx hb dL_584 rfl (lv_at hl 2 rfl) ?_
  refine lv_aload_n hx hb dL_585 rfl (lv_at hl 1 rfl) ?_
  refine lv_iload hx hb dL_586 (lv_at hl 0 rfl) ?_
  refine lv_iconst (v := 1) hx hb dL_588 (by decide) ?_
  refine lv_iadd hx hb dL_589 ?_
  refine va_sld hx hb hXs hbs hbA hS (xs_in (j := 1) hn hL (by decide)) dL_590 ?_
  refine lv_aload_n hx hb dL_591 rfl (lv_at hl 1 rfl) ?_
  refine lv_iload hx hb dL_592 (lv_at hl 0 rfl) ?_
  refine lv_iconst (v := 2) hx hb dL_594 (by decide) ?_
  refine lv_iadd hx hb dL_595 ?_
  refine va_sld hx hb hXs hbs hbA hS (xs_in (j := 2) hn hL (by decide)) dL_596 ?_
  refine lv_aload_n hx hb dL_597 rfl (lv_at hl 1 rfl) ?_
  refine lv_iload hx hb dL_598 (lv_at hl 0 rfl) ?_
  refine lv_iconst (v := 3) hx hb dL_600 (by decide) ?_
  refine lv_iadd hx hb dL_601 ?_
  refine va_sld hx hb hXs hbs hbA hS (xs_in (j := 3) hn hL (by decide)) dL_602 ?_
  refine lv_aload_n hx hb dL_603 rfl (lv_at hl 1 rfl) ?_
  refine lv_iload hx hb dL_604 (lv_at hl 0 rfl) ?_
  refine lv_iconst (v := 4) hx hb dL_606 (by decide) ?_
  refine lv_iadd hx hb dL_607 ?_
  refine va_sld hx hb hXs hbs hbA hS (xs_in (j := 4) hn hL (by decide)) dL_608 ?_
  refine lv_aload_n hx hb dL_609 rfl (lv_at hl 4 rfl) ?_
  refine ll_w (xw_runS (n := 6) (As := [.ref (a 0), .int (xs (nI (7 * n) + 1).toNatClampNeg), .int (xs (nI (7 * n) + 2).toNatClampNeg), .int (xs (nI (7 * n) + 3).toNatClampNeg), .int (xs (nI (7 * n) + 4).toNatClampNeg), .ref (a 47)]) (rest := []) ⟨hx, hb, hml, hown, hts⟩ (c_LW_type l hlt D a cI cZ cQ cJ hLA.1 I F g (xs (nI (7 * n) + 1).toNatClampNeg) (xs (nI (7 * n) + 2).toNatClampNeg) (xs (nI (7 * n) + 3).toNatClampNeg) (xs (nI (7 * n) + 4).toNatClampNeg) H.size P hc) wc_LW_type (hts _ tw_3_25) (hts _ tw_3_26) (hts _ tw_1_0) rfl rfl (by decide) (by decide +kernel) (by decide) (by decide) ⟨lP_bl, ll_at hA hK hN hZ hX hC hLA hS⟩ rfl rfl hl.1 rfl (lv_room (Nat.le_of_ble_eq_true rfl)) dL_610 ⟨by show _ ≤ 601024; omega, by show _ ≤ 7293034; omega⟩) hLA hA hS (fun r5 I F g H locs hA hp hS => ?_)
  obtain ⟨PM, hc, hw⟩ := hw r5 I F g hp
  refine lv_istore (lv' := [(5, .int r5), (4, .int (nI (7 * n))), (0, .ref bs), (1, .ref (a 0)), (2, .ref (b 0)), (3, .ref (a 47))]) hx hb dL_613 hl (by decide) rfl (fun ls hl => ?_)
  refine lv_aload_n hx hb dL_615 rfl (lv_at hl 4 rfl) ?_
  refine lv_aload_n hx hb dL_616 rfl (lv_at hl 2 rfl) ?_
  refine lv_iload hx hb dL_617 (lv_at hl 1 rfl) ?_
  refine lv_iconst (v := 1) hx hb dL_619 (by decide) ?_
  refine lv_iadd hx hb dL_620 ?_
  refine va_sld hx hb hXs hbs hbA hS (xs_in (j := 1) hn hL (by decide)) dL_621 ?_
  refine lv_aload_n hx hb dL_622 rfl (lv_at hl 2 rfl) ?_
  refine lv_iload hx hb dL_623 (lv_at hl 1 rfl) ?_
  refine lv_iconst (v := 2) hx hb dL_625 (by decide) ?_
  refine lv_iadd hx hb dL_626 ?_
  refine va_sld hx hb hXs hbs hbA hS (xs_in (j := 2) hn hL (by decide)) dL_627 ?_
  refine lv_aload_n hx hb dL_628 rfl (lv_at hl 2 rfl) ?_
  refine lv_iload hx hb dL_629 (lv_at hl 1 rfl) ?_
  refine lv_iconst (v := 3) hx hb dL_631 (by decide) ?_
  refine lv_iadd hx hb dL_632 ?_
  refine va_sld hx hb hXs hbs hbA hS (xs_in (j := 3) hn hL (by decide)) dL_633 ?_
  refine lv_aload_n hx hb dL_634 rfl (lv_at hl 2 rfl) ?_
  refine lv_iload hx hb dL_635 (lv_at hl 1 rfl) ?_
  refine lv_iconst (v := 4) hx hb dL_637 (by decide) ?_
  refine lv_iadd hx hb dL_638 ?_
  refine va_sld hx hb hXs hbs hbA hS (xs_in (j := 4) hn hL (by decide)) dL_639 ?_
  refine ll_i (va_runV (As := [.int (xs (nI (7 * n) + 1).toNatClampNeg), .int (xs (nI (7 * n) + 2).toNatClampNeg), .int (xs (nI (7 * n) + 3).toNatClampNeg), .int (xs (nI (7 * n) + 4).toNatClampNeg)]) (rest := []) ⟨hx, hb, hml, hown, hts⟩ (c_MM_type l D b cI cZ hLA.2.1 J G (xs (nI (7 * n) + 1).toNatClampNeg) (xs (nI (7 * n) + 2).toNatClampNeg) (xs (nI (7 * n) + 3).toNatClampNeg) (xs (nI (7 * n) + 4).toNatClampNeg) H.size PM hc) (cwV 4 hts (tb_V (C := "CodeJudgeModel") wc_MM_type tw_5_16 tw_5_17 tw_5_18 tw_1_9) rfl rfl rfl (by decide +kernel) ⟨(Nat.le_of_ble_eq_true rfl), (Nat.le_of_ble_eq_true rfl)⟩) ⟨mP_bl, va_recv hK hA.2 rfl mw_0, ll_mat hA hK⟩ rfl rfl hl.1 rfl (lv_room (Nat.le_of_ble_eq_true rfl)) dL_640 ⟨by show _ ≤ 601024; omega, by show _ ≤ 7293034; omega⟩) hLA hA hS (fun b6 J G H locs hA hp hS => ?_)
  obtain ⟨PT, hc, hw⟩ := hw b6 J G hp
  refine lv_istore (lv' := [(6, .int b6), (5, .int r5), (4, .int (nI (7 * n))), (0, .ref bs), (1, .ref (a 0)), (2, .ref (b 0)), (3, .ref (a 47))]) hx hb dL_643 hl (by decide) rfl (fun ls hl => ?_)
  refine lv_aload_n hx hb dL_645 rfl (lv_at hl 5 rfl) ?_
  refine ll_i (va_runV (As := []) (rest := []) ⟨hx, hb, hml, hown, hts⟩ (c_MM_thrown l D b cI cZ hLA.2.1 J G H.size PT hc) (cwV 0 hts (tb_V (C := "CodeJudgeModel") wc_MM_thrown tw_4_177 tw_4_178 tw_4_179 tw_1_9) rfl rfl rfl (by decide +kernel) ⟨(Nat.le_of_ble_eq_true rfl), (Nat.le_of_ble_eq_true rfl)⟩) ⟨mP_bl, va_recv hK hA.2 rfl mw_0, ll_mat hA hK⟩ rfl rfl hl.1 rfl (lv_room (Nat.le_of_ble_eq_true rfl)) dL_646 ⟨by show _ ≤ 601024; omega, by show _ ≤ 7293034; omega⟩) hLA hA hS (fun t5 J G H locs hA hp hS => ?_)
  obtain ⟨rfl, hz⟩ := hw t5 J G hp
  refine lv_iload hx hb dL_649 (lv_at hl 1 rfl) ?_
  refine lv_icmp_eq (tgt := 656) hx hb dL_651 (by decide) (fun _ => ?_) (fun h => absurd rfl h)
  refine lv_iload hx hb dL_656 (lv_at hl 1 rfl) ?_
  obtain ⟨hv, hw⟩ := hz
  refine lv_if_ne (tgt := 673) hx hb dL_658 (by decide) (fun h => ?_) (fun h => ?_)
  · refine lv_goto (tgt := 1120) hx hb dL_673 (by decide) ?_
    refine W.widen (k := c0 + 3) (n := s0 + 18) (by omega) (by omega) ?_
    exact kk I F g J G H locs ls (lv_sub hl [2, 3, 4, 5, 6] rfl) hA hS hw
  · have hv := hv h
    refine lv_aload_n hx hb dL_661 rfl (lv_at hl 6 rfl) ?_
    refine lv_iconst (v := 0) hx hb dL_662 (by decide) ?_
    refine va_lald hx hb hK hA.1 47 3 lw_47 rfl (by unfold vp_in; decide) dL_663 ?_
    refine lv_iload hx hb dL_664 (lv_at hl 0 rfl) ?_
    refine lv_i2l (v := b6.toInt64) hx hb dL_666 rfl ?_
    refine W.lcmp hx hb dL_667 ?_
    refine lv_if_eq (tgt := 673) hx hb dL_668 (by decide) (fun _ => ?_) (fun h => absurd (lg_eq (hv)) h)
    refine lv_goto (tgt := 1120) hx hb dL_673 (by decide) ?_
    refine W.widen (k := c0 + 3) (n := s0 + 18) (by omega) (by omega) ?_
    exact kk I F g J G H locs ls (lv_sub hl [2, 3, 4, 5, 6] rfl) hA hS hw
def wpl_start (p1 : Int32) (p2 : Int32) (p3 : Int32) (p4 : Int32) (p5 : Int32) (I : SI) (F : SF) (g : Nat → Int64) (J : SI) (G : SF) (Rel : SI → SF → SI → SF → Prop) : Prop := ∃ P : Int32 → SI → SF → (Nat → Int64) → Prop, wp_LW_start p1 p2 p3 p4 p5 I F g P ∧ ∀ r5 I1 F1 g1, P r5 I1 F1 g1 → ∃ PM : SI → SF → Prop, wp_MM_start p1 p2 p3 p4 p5 J G PM ∧ ∀ J1 G1, PM J1 G1 → ∃ PT : Int32 → SI → SF → Prop, wp_MM_thrown J1 G1 PT ∧ ∀ t5 J2 G2, PT t5 J2 G2 → t5 = r5 ∧ Rel I1 F1 J2 G2
set_option maxHeartbeats 4000000 in
set_option maxRecDepth 100000 in
theorem lc_start {p : Program} {l : Launch} {e : Env} {s : State} {m : MethodId} {below : List Frame} {meth : Method} {c : Code} {Q : State → Prop} {D : va_G} {a b : Nat → Nat} {cI cZ cQ cJ : ClassId} {bs L n c0 s0 : Nat} {xs : Nat → Int32} (hlt : l.stackTraces = false) (hLC : LC p s m meth c D a b cI cZ cQ cJ bs L xs) (hn : 7 * n + 7 ≤ L) (hL : L ≤ 3584) (hc0 : c0 + 3 ≤ 601024) (hs0 : s0 + 18 ≤ 7293034) (Rel : SI → SF → SI → SF → Prop)
    (I : SI) (F : SF) (g : Nat → Int64) (J : SI) (G : SF) (H : Heap) (locs : List Loc) (ls : Array Slot) (hl : lv_has ls 7 [(4, .int (nI (7 * n))), (0, .ref bs), (1, .ref (a 0)), (2, .ref (b 0)), (3, .ref (a 47))]) (hA : lSt D a b cI cZ cQ cJ I F g J G H) (hS : va_S (fun q => s.heap.size ≤ q) s.heap H locs) (hw : wpl_start (xs (nI (7 * n) + 1).toNatClampNeg) (xs (nI (7 * n) + 2).toNatClampNeg) (xs (nI (7 * n) + 3).toNatClampNeg) (xs (nI (7 * n) + 4).toNatClampNeg) (xs (nI (7 * n) + 5).toNatClampNeg) I F g J G Rel)
    (kk : ∀ (I : SI) (F : SF) (g : Nat → Int64) (J : SI) (G : SF) (H : Heap) (locs : List Loc) (ls : Array Slot), lv_has ls 7 [(4, .int (nI (7 * n))), (0, .ref bs), (1, .ref (a 0)), (2, .ref (b 0)), (3, .ref (a 47))] → lSt D a b cI cZ cQ cJ I F g J G H → va_S (fun q => s.heap.size ≤ q) s.heap H locs → Rel I F J G → W p l e room_1 s m #[Value.ref bs] below meth c H locs (c0 + 3) (s0 + 18) Q (F0 m 1120 ls [])) : W p l e room_1 s m #[Value.ref bs] below meth c H locs c0 s0 Q (F0 m 676 ls []) := by
  obtain ⟨hx, hb, hml, hown, hts, hK, hN, hZ, hX, hC, hLA, hXs, hbs⟩ := hLC
  have hbA : ¬ s.heap.size ≤ bs := Nat.not_le.mpr hbs
  obtain ⟨P, hc, hw⟩ := hw
  refine lv_aload_n hx hb dL_676 rfl (lv_at hl 2 rfl) ?_
  refine lv_aload_n hx hb dL_677 rfl (lv_at hl 1 rfl) ?_
  refine lv_iload hx hb dL_678 (lv_at hl 0 rfl) ?_
  refine lv_iconst (v := 1) hx hb dL_680 (by decide) ?_
  refine lv_iadd hx hb dL_681 ?_
  refine va_sld hx hb hXs hbs hbA hS (xs_in (j := 1) hn hL (by decide)) dL_682 ?_
  refine lv_aload_n hx hb dL_683 rfl (lv_at hl 1 rfl) ?_
  refine lv_iload hx hb dL_684 (lv_at hl 0 rfl) ?_
  refine lv_iconst (v := 2) hx hb dL_686 (by decide) ?_
  refine lv_iadd hx hb dL_687 ?_
  refine va_sld hx hb hXs hbs hbA hS (xs_in (j := 2) hn hL (by decide)) dL_688 ?_
  refine lv_aload_n hx hb dL_689 rfl (lv_at hl 1 rfl) ?_
  refine lv_iload hx hb dL_690 (lv_at hl 0 rfl) ?_
  refine lv_iconst (v := 3) hx hb dL_692 (by decide) ?_
  refine lv_iadd hx hb dL_693 ?_
  refine va_sld hx hb hXs hbs hbA hS (xs_in (j := 3) hn hL (by decide)) dL_694 ?_
  refine lv_aload_n hx hb dL_695 rfl (lv_at hl 1 rfl) ?_
  refine lv_iload hx hb dL_696 (lv_at hl 0 rfl) ?_
  refine lv_iconst (v := 4) hx hb dL_698 (by decide) ?_
  refine lv_iadd hx hb dL_699 ?_
  refine va_sld hx hb hXs hbs hbA hS (xs_in (j := 4) hn hL (by decide)) dL_700 ?_
  refine lv_aload_n hx hb dL_701 rfl (lv_at hl 1 rfl) ?_
  refine lv_iload hx hb dL_702 (lv_at hl 0 rfl) ?_
  refine lv_iconst (v := 5) hx hb dL_704 (by decide) ?_
  refine lv_iadd hx hb dL_705 ?_
  refine va_sld hx hb hXs hbs hbA hS (xs_in (j := 5) hn hL (by decide)) dL_706 ?_
  refine ll_w (xw_runS (n := 6) (As := [.ref (a 0), .int (xs (nI (7 * n) + 1).toNatClampNeg), .int (xs (nI (7 * n) + 2).toNatClampNeg), .int (xs (nI (7 * n) + 3).toNatClampNeg), .int (xs (nI (7 * n) + 4).toNatClampNeg), .int (xs (nI (7 * n) + 5).toNatClampNeg)]) (rest := []) ⟨hx, hb, hml, hown, hts⟩ (c_LW_start l hlt D a cI cZ cQ cJ hLA.1 I F g (xs (nI (7 * n) + 1).toNatClampNeg) (xs (nI (7 * n) + 2).toNatClampNeg) (xs (nI (7 * n) + 3).toNatClampNeg) (xs (nI (7 * n) + 4).toNatClampNeg) (xs (nI (7 * n) + 5).toNatClampNeg) H.size P hc) wc_LW_start (hts _ tw_3_41) (hts _ tw_3_42) (hts _ tw_1_0) rfl rfl (by decide) (by decide +kernel) (by decide) (by decide) ⟨lP_bl, ll_at hA hK hN hZ hX hC hLA hS⟩ rfl rfl hl.1 rfl (lv_room (Nat.le_of_ble_eq_true rfl)) dL_707 ⟨by show _ ≤ 601024; omega, by show _ ≤ 7293034; omega⟩) hLA hA hS (fun r5 I F g H locs hA hp hS => ?_)
  obtain ⟨PM, hc, hw⟩ := hw r5 I F g hp
  refine lv_istore (lv' := [(5, .int r5), (4, .int (nI (7 * n))), (0, .ref bs), (1, .ref (a 0)), (2, .ref (b 0)), (3, .ref (a 47))]) hx hb dL_710 hl (by decide) rfl (fun ls hl => ?_)
  refine lv_aload_n hx hb dL_712 rfl (lv_at hl 4 rfl) ?_
  refine lv_aload_n hx hb dL_713 rfl (lv_at hl 2 rfl) ?_
  refine lv_iload hx hb dL_714 (lv_at hl 1 rfl) ?_
  refine lv_iconst (v := 1) hx hb dL_716 (by decide) ?_
  refine lv_iadd hx hb dL_717 ?_
  refine va_sld hx hb hXs hbs hbA hS (xs_in (j := 1) hn hL (by decide)) dL_718 ?_
  refine lv_aload_n hx hb dL_719 rfl (lv_at hl 2 rfl) ?_
  refine lv_iload hx hb dL_720 (lv_at hl 1 rfl) ?_
  refine lv_iconst (v := 2) hx hb dL_722 (by decide) ?_
  refine lv_iadd hx hb dL_723 ?_
  refine va_sld hx hb hXs hbs hbA hS (xs_in (j := 2) hn hL (by decide)) dL_724 ?_
  refine lv_aload_n hx hb dL_725 rfl (lv_at hl 2 rfl) ?_
  refine lv_iload hx hb dL_726 (lv_at hl 1 rfl) ?_
  refine lv_iconst (v := 3) hx hb dL_728 (by decide) ?_
  refine lv_iadd hx hb dL_729 ?_
  refine va_sld hx hb hXs hbs hbA hS (xs_in (j := 3) hn hL (by decide)) dL_730 ?_
  refine lv_aload_n hx hb dL_731 rfl (lv_at hl 2 rfl) ?_
  refine lv_iload hx hb dL_732 (lv_at hl 1 rfl) ?_
  refine lv_iconst (v := 4) hx hb dL_734 (by decide) ?_
  refine lv_iadd hx hb dL_735 ?_
  refine va_sld hx hb hXs hbs hbA hS (xs_in (j := 4) hn hL (by decide)) dL_736 ?_
  refine lv_aload_n hx hb dL_737 rfl (lv_at hl 2 rfl) ?_
  refine lv_iload hx hb dL_738 (lv_at hl 1 rfl) ?_
  refine lv_iconst (v := 5) hx hb dL_740 (by decide) ?_
  refine lv_iadd hx hb dL_741 ?_
  refine va_sld hx hb hXs hbs hbA hS (xs_in (j := 5) hn hL (by decide)) dL_742 ?_
  refine ll_v (va_runV (As := [.int (xs (nI (7 * n) + 1).toNatClampNeg), .int (xs (nI (7 * n) + 2).toNatClampNeg), .int (xs (nI (7 * n) + 3).toNatClampNeg), .int (xs (nI (7 * n) + 4).toNatClampNeg), .int (xs (nI (7 * n) + 5).toNatClampNeg)]) (rest := []) ⟨hx, hb, hml, hown, hts⟩ (c_MM_start l D b cI cZ hLA.2.1 J G (xs (nI (7 * n) + 1).toNatClampNeg) (xs (nI (7 * n) + 2).toNatClampNeg) (xs (nI (7 * n) + 3).toNatClampNeg) (xs (nI (7 * n) + 4).toNatClampNeg) (xs (nI (7 * n) + 5).toNatClampNeg) H.size PM hc) (cwV 5 hts (tb_V (C := "CodeJudgeModel") wc_MM_start tw_5_20 tw_5_21 tw_5_22 tw_1_9) rfl rfl rfl (by decide +kernel) ⟨(Nat.le_of_ble_eq_true rfl), (Nat.le_of_ble_eq_true rfl)⟩) ⟨mP_bl, va_recv hK hA.2 rfl mw_0, ll_mat hA hK⟩ rfl rfl hl.1 rfl (lv_room (Nat.le_of_ble_eq_true rfl)) dL_743 ⟨by show _ ≤ 601024; omega, by show _ ≤ 7293034; omega⟩) hLA hA hS (fun J G H locs hA hp hS => ?_)
  obtain ⟨PT, hc, hw⟩ := hw J G hp
  refine lv_aload_n hx hb dL_746 rfl (lv_at hl 4 rfl) ?_
  refine ll_i (va_runV (As := []) (rest := []) ⟨hx, hb, hml, hown, hts⟩ (c_MM_thrown l D b cI cZ hLA.2.1 J G H.size PT hc) (cwV 0 hts (tb_V (C := "CodeJudgeModel") wc_MM_thrown tw_4_177 tw_4_178 tw_4_179 tw_1_9) rfl rfl rfl (by decide +kernel) ⟨(Nat.le_of_ble_eq_true rfl), (Nat.le_of_ble_eq_true rfl)⟩) ⟨mP_bl, va_recv hK hA.2 rfl mw_0, ll_mat hA hK⟩ rfl rfl hl.1 rfl (lv_room (Nat.le_of_ble_eq_true rfl)) dL_747 ⟨by show _ ≤ 601024; omega, by show _ ≤ 7293034; omega⟩) hLA hA hS (fun t5 J G H locs hA hp hS => ?_)
  obtain ⟨rfl, hz⟩ := hw t5 J G hp
  refine lv_iload hx hb dL_750 (lv_at hl 0 rfl) ?_
  refine lv_icmp_eq (tgt := 757) hx hb dL_752 (by decide) (fun _ => ?_) (fun h => absurd rfl h)
  refine lv_goto (tgt := 1120) hx hb dL_757 (by decide) ?_
  refine W.widen (k := c0 + 3) (n := s0 + 18) (by omega) (by omega) ?_
  exact kk I F g J G H locs ls (lv_sub hl [1, 2, 3, 4, 5] rfl) hA hS hz
def wpl_run (p1 : Int32) (I : SI) (F : SF) (g : Nat → Int64) (J : SI) (G : SF) (Rel : SI → SF → SI → SF → Prop) : Prop := ∃ P : Int32 → SI → SF → (Nat → Int64) → Prop, wp_LW_run p1 I F g P ∧ ∀ r5 I1 F1 g1, P r5 I1 F1 g1 → ∃ PM : Int32 → SI → SF → Prop, wp_MM_run p1 J G PM ∧ ∀ b6 J1 G1, PM b6 J1 G1 → ∃ PT : Int32 → SI → SF → Prop, wp_MM_thrown J1 G1 PT ∧ ∀ t5 J2 G2, PT t5 J2 G2 → t5 = r5 ∧ (r5 = 0 → g1 (0 : Int32).toNatClampNeg = b6.toInt64) ∧ Rel I1 F1 J2 G2
set_option maxHeartbeats 4000000 in
set_option maxRecDepth 100000 in
theorem lc_run {p : Program} {l : Launch} {e : Env} {s : State} {m : MethodId} {below : List Frame} {meth : Method} {c : Code} {Q : State → Prop} {D : va_G} {a b : Nat → Nat} {cI cZ cQ cJ : ClassId} {bs L n c0 s0 : Nat} {xs : Nat → Int32} (hlt : l.stackTraces = false) (hLC : LC p s m meth c D a b cI cZ cQ cJ bs L xs) (hn : 7 * n + 7 ≤ L) (hL : L ≤ 3584) (hc0 : c0 + 3 ≤ 601024) (hs0 : s0 + 18 ≤ 7293034) (Rel : SI → SF → SI → SF → Prop)
    (I : SI) (F : SF) (g : Nat → Int64) (J : SI) (G : SF) (H : Heap) (locs : List Loc) (ls : Array Slot) (hl : lv_has ls 7 [(4, .int (nI (7 * n))), (0, .ref bs), (1, .ref (a 0)), (2, .ref (b 0)), (3, .ref (a 47))]) (hA : lSt D a b cI cZ cQ cJ I F g J G H) (hS : va_S (fun q => s.heap.size ≤ q) s.heap H locs) (hw : wpl_run (xs (nI (7 * n) + 1).toNatClampNeg) I F g J G Rel)
    (kk : ∀ (I : SI) (F : SF) (g : Nat → Int64) (J : SI) (G : SF) (H : Heap) (locs : List Loc) (ls : Array Slot), lv_has ls 7 [(4, .int (nI (7 * n))), (0, .ref bs), (1, .ref (a 0)), (2, .ref (b 0)), (3, .ref (a 47))] → lSt D a b cI cZ cQ cJ I F g J G H → va_S (fun q => s.heap.size ≤ q) s.heap H locs → Rel I F J G → W p l e room_1 s m #[Value.ref bs] below meth c H locs (c0 + 3) (s0 + 18) Q (F0 m 1120 ls [])) : W p l e room_1 s m #[Value.ref bs] below meth c H locs c0 s0 Q (F0 m 760 ls []) := by
  obtain ⟨hx, hb, hml, hown, hts, hK, hN, hZ, hX, hC, hLA, hXs, hbs⟩ := hLC
  have hbA : ¬ s.heap.size ≤ bs := Nat.not_le.mpr hbs
  obtain ⟨P, hc, hw⟩ := hw
  refine lv_aload_n hx hb dL_760 rfl (lv_at hl 2 rfl) ?_
  refine lv_aload_n hx hb dL_761 rfl (lv_at hl 1 rfl) ?_
  refine lv_iload hx hb dL_762 (lv_at hl 0 rfl) ?_
  refine lv_iconst (v := 1) hx hb dL_764 (by decide) ?_
  refine lv_iadd hx hb dL_765 ?_
  refine va_sld hx hb hXs hbs hbA hS (xs_in (j := 1) hn hL (by decide)) dL_766 ?_
  refine lv_aload_n hx hb dL_767 rfl (lv_at hl 4 rfl) ?_
  refine ll_w (xw_runS (n := 3) (As := [.ref (a 0), .int (xs (nI (7 * n) + 1).toNatClampNeg), .ref (a 47)]) (rest := []) ⟨hx, hb, hml, hown, hts⟩ (c_LW_run l hlt D a cI cZ cQ cJ hLA.1 I F g (xs (nI (7 * n) + 1).toNatClampNeg) H.size P hc) wc_LW_run (hts _ tw_3_101) (hts _ tw_3_102) (hts _ tw_1_0) rfl rfl (by decide) (by decide +kernel) (by decide) (by decide) ⟨lP_bl, ll_at hA hK hN hZ hX hC hLA hS⟩ rfl rfl hl.1 rfl (lv_room (Nat.le_of_ble_eq_true rfl)) dL_768 ⟨by show _ ≤ 601024; omega, by show _ ≤ 7293034; omega⟩) hLA hA hS (fun r5 I F g H locs hA hp hS => ?_)
  obtain ⟨PM, hc, hw⟩ := hw r5 I F g hp
  refine lv_istore (lv' := [(5, .int r5), (4, .int (nI (7 * n))), (0, .ref bs), (1, .ref (a 0)), (2, .ref (b 0)), (3, .ref (a 47))]) hx hb dL_771 hl (by decide) rfl (fun ls hl => ?_)
  refine lv_aload_n hx hb dL_773 rfl (lv_at hl 4 rfl) ?_
  refine lv_aload_n hx hb dL_774 rfl (lv_at hl 2 rfl) ?_
  refine lv_iload hx hb dL_775 (lv_at hl 1 rfl) ?_
  refine lv_iconst (v := 1) hx hb dL_777 (by decide) ?_
  refine lv_iadd hx hb dL_778 ?_
  refine va_sld hx hb hXs hbs hbA hS (xs_in (j := 1) hn hL (by decide)) dL_779 ?_
  refine ll_i (va_runV (As := [.int (xs (nI (7 * n) + 1).toNatClampNeg)]) (rest := []) ⟨hx, hb, hml, hown, hts⟩ (c_MM_run l D b cI cZ hLA.2.1 J G (xs (nI (7 * n) + 1).toNatClampNeg) H.size PM hc) (cwV 1 hts (tb_V (C := "CodeJudgeModel") wc_MM_run tw_5_39 tw_5_40 tw_5_41 tw_1_9) rfl rfl rfl (by decide +kernel) ⟨(Nat.le_of_ble_eq_true rfl), (Nat.le_of_ble_eq_true rfl)⟩) ⟨mP_bl, va_recv hK hA.2 rfl mw_0, ll_mat hA hK⟩ rfl rfl hl.1 rfl (lv_room (Nat.le_of_ble_eq_true rfl)) dL_780 ⟨by show _ ≤ 601024; omega, by show _ ≤ 7293034; omega⟩) hLA hA hS (fun b6 J G H locs hA hp hS => ?_)
  obtain ⟨PT, hc, hw⟩ := hw b6 J G hp
  refine lv_istore (lv' := [(6, .int b6), (5, .int r5), (4, .int (nI (7 * n))), (0, .ref bs), (1, .ref (a 0)), (2, .ref (b 0)), (3, .ref (a 47))]) hx hb dL_783 hl (by decide) rfl (fun ls hl => ?_)
  refine lv_aload_n hx hb dL_785 rfl (lv_at hl 5 rfl) ?_
  refine ll_i (va_runV (As := []) (rest := []) ⟨hx, hb, hml, hown, hts⟩ (c_MM_thrown l D b cI cZ hLA.2.1 J G H.size PT hc) (cwV 0 hts (tb_V (C := "CodeJudgeModel") wc_MM_thrown tw_4_177 tw_4_178 tw_4_179 tw_1_9) rfl rfl rfl (by decide +kernel) ⟨(Nat.le_of_ble_eq_true rfl), (Nat.le_of_ble_eq_true rfl)⟩) ⟨mP_bl, va_recv hK hA.2 rfl mw_0, ll_mat hA hK⟩ rfl rfl hl.1 rfl (lv_room (Nat.le_of_ble_eq_true rfl)) dL_786 ⟨by show _ ≤ 601024; omega, by show _ ≤ 7293034; omega⟩) hLA hA hS (fun t5 J G H locs hA hp hS => ?_)
  obtain ⟨rfl, hz⟩ := hw t5 J G hp
  refine lv_iload hx hb dL_789 (lv_at hl 1 rfl) ?_
  refine lv_icmp_eq (tgt := 796) hx hb dL_791 (by decide) (fun _ => ?_) (fun h => absurd rfl h)
  refine lv_iload hx hb dL_796 (lv_at hl 1 rfl) ?_
  obtain ⟨hv, hw⟩ := hz
  refine lv_if_ne (tgt := 813) hx hb dL_798 (by decide) (fun h => ?_) (fun h => ?_)
  · refine lv_goto (tgt := 1120) hx hb dL_813 (by decide) ?_
    refine W.widen (k := c0 + 3) (n := s0 + 18) (by omega) (by omega) ?_
    exact kk I F g J G H locs ls (lv_sub hl [2, 3, 4, 5, 6] rfl) hA hS hw
  · have hv := hv h
    refine lv_aload_n hx hb dL_801 rfl (lv_at hl 6 rfl) ?_
    refine lv_iconst (v := 0) hx hb dL_802 (by decide) ?_
    refine va_lald hx hb hK hA.1 47 3 lw_47 rfl (by unfold vp_in; decide) dL_803 ?_
    refine lv_iload hx hb dL_804 (lv_at hl 0 rfl) ?_
    refine lv_i2l (v := b6.toInt64) hx hb dL_806 rfl ?_
    refine W.lcmp hx hb dL_807 ?_
    refine lv_if_eq (tgt := 813) hx hb dL_808 (by decide) (fun _ => ?_) (fun h => absurd (lg_eq (hv)) h)
    refine lv_goto (tgt := 1120) hx hb dL_813 (by decide) ?_
    refine W.widen (k := c0 + 3) (n := s0 + 18) (by omega) (by omega) ?_
    exact kk I F g J G H locs ls (lv_sub hl [2, 3, 4, 5, 6] rfl) hA hS hw
def wpl_state (p1 : Int32) (I : SI) (F : SF) (g : Nat → Int64) (J : SI) (G : SF) (Rel : SI → SF → SI → SF → Prop) : Prop := ∃ P : Int32 → SI → SF → (Nat → Int64) → Prop, wp_LW_state p1 I F g P ∧ ∀ r5 I1 F1 g1, P r5 I1 F1 g1 → ∃ PM : Int32 → SI → SF → Prop, wp_MM_state p1 J G PM ∧ ∀ b6 J1 G1, PM b6 J1 G1 → ∃ PT : Int32 → SI → SF → Prop, wp_MM_thrown J1 G1 PT ∧ ∀ t5 J2 G2, PT t5 J2 G2 → t5 = r5 ∧ (r5 = 0 → g1 (0 : Int32).toNatClampNeg = b6.toInt64) ∧ Rel I1 F1 J2 G2
set_option maxHeartbeats 4000000 in
set_option maxRecDepth 100000 in
theorem lc_state {p : Program} {l : Launch} {e : Env} {s : State} {m : MethodId} {below : List Frame} {meth : Method} {c : Code} {Q : State → Prop} {D : va_G} {a b : Nat → Nat} {cI cZ cQ cJ : ClassId} {bs L n c0 s0 : Nat} {xs : Nat → Int32} (hlt : l.stackTraces = false) (hLC : LC p s m meth c D a b cI cZ cQ cJ bs L xs) (hn : 7 * n + 7 ≤ L) (hL : L ≤ 3584) (hc0 : c0 + 3 ≤ 601024) (hs0 : s0 + 18 ≤ 7293034) (Rel : SI → SF → SI → SF → Prop)
    (I : SI) (F : SF) (g : Nat → Int64) (J : SI) (G : SF) (H : Heap) (locs : List Loc) (ls : Array Slot) (hl : lv_has ls 7 [(4, .int (nI (7 * n))), (0, .ref bs), (1, .ref (a 0)), (2, .ref (b 0)), (3, .ref (a 47))]) (hA : lSt D a b cI cZ cQ cJ I F g J G H) (hS : va_S (fun q => s.heap.size ≤ q) s.heap H locs) (hw : wpl_state (xs (nI (7 * n) + 1).toNatClampNeg) I F g J G Rel)
    (kk : ∀ (I : SI) (F : SF) (g : Nat → Int64) (J : SI) (G : SF) (H : Heap) (locs : List Loc) (ls : Array Slot), lv_has ls 7 [(4, .int (nI (7 * n))), (0, .ref bs), (1, .ref (a 0)), (2, .ref (b 0)), (3, .ref (a 47))] → lSt D a b cI cZ cQ cJ I F g J G H → va_S (fun q => s.heap.size ≤ q) s.heap H locs → Rel I F J G → W p l e room_1 s m #[Value.ref bs] below meth c H locs (c0 + 3) (s0 + 18) Q (F0 m 1120 ls [])) : W p l e room_1 s m #[Value.ref bs] below meth c H locs c0 s0 Q (F0 m 816 ls []) := by
  obtain ⟨hx, hb, hml, hown, hts, hK, hN, hZ, hX, hC, hLA, hXs, hbs⟩ := hLC
  have hbA : ¬ s.heap.size ≤ bs := Nat.not_le.mpr hbs
  obtain ⟨P, hc, hw⟩ := hw
  refine lv_aload_n hx hb dL_816 rfl (lv_at hl 2 rfl) ?_
  refine lv_aload_n hx hb dL_817 rfl (lv_at hl 1 rfl) ?_
  refine lv_iload hx hb dL_818 (lv_at hl 0 rfl) ?_
  refine lv_iconst (v := 1) hx hb dL_820 (by decide) ?_
  refine lv_iadd hx hb dL_821 ?_
  refine va_sld hx hb hXs hbs hbA hS (xs_in (j := 1) hn hL (by decide)) dL_822 ?_
  refine lv_aload_n hx hb dL_823 rfl (lv_at hl 4 rfl) ?_
  refine ll_w (xw_runS (n := 3) (As := [.ref (a 0), .int (xs (nI (7 * n) + 1).toNatClampNeg), .ref (a 47)]) (rest := []) ⟨hx, hb, hml, hown, hts⟩ (c_LW_state l hlt D a cI cZ cQ cJ hLA.1 I F g (xs (nI (7 * n) + 1).toNatClampNeg) H.size P hc) wc_LW_state (hts _ tw_3_239) (hts _ tw_4_0) (hts _ tw_1_0) rfl rfl (by decide) (by decide +kernel) (by decide) (by decide) ⟨lP_bl, ll_at hA hK hN hZ hX hC hLA hS⟩ rfl rfl hl.1 rfl (lv_room (Nat.le_of_ble_eq_true rfl)) dL_824 ⟨by show _ ≤ 601024; omega, by show _ ≤ 7293034; omega⟩) hLA hA hS (fun r5 I F g H locs hA hp hS => ?_)
  obtain ⟨PM, hc, hw⟩ := hw r5 I F g hp
  refine lv_istore (lv' := [(5, .int r5), (4, .int (nI (7 * n))), (0, .ref bs), (1, .ref (a 0)), (2, .ref (b 0)), (3, .ref (a 47))]) hx hb dL_827 hl (by decide) rfl (fun ls hl => ?_)
  refine lv_aload_n hx hb dL_829 rfl (lv_at hl 4 rfl) ?_
  refine lv_aload_n hx hb dL_830 rfl (lv_at hl 2 rfl) ?_
  refine lv_iload hx hb dL_831 (lv_at hl 1 rfl) ?_
  refine lv_iconst (v := 1) hx hb dL_833 (by decide) ?_
  refine lv_iadd hx hb dL_834 ?_
  refine va_sld hx hb hXs hbs hbA hS (xs_in (j := 1) hn hL (by decide)) dL_835 ?_
  refine ll_i (va_runV (As := [.int (xs (nI (7 * n) + 1).toNatClampNeg)]) (rest := []) ⟨hx, hb, hml, hown, hts⟩ (c_MM_state l D b cI cZ hLA.2.1 J G (xs (nI (7 * n) + 1).toNatClampNeg) H.size PM hc) (cwV 1 hts (tb_V (C := "CodeJudgeModel") wc_MM_state tw_5_82 tw_5_83 tw_5_84 tw_1_9) rfl rfl rfl (by decide +kernel) ⟨(Nat.le_of_ble_eq_true rfl), (Nat.le_of_ble_eq_true rfl)⟩) ⟨mP_bl, va_recv hK hA.2 rfl mw_0, ll_mat hA hK⟩ rfl rfl hl.1 rfl (lv_room (Nat.le_of_ble_eq_true rfl)) dL_836 ⟨by show _ ≤ 601024; omega, by show _ ≤ 7293034; omega⟩) hLA hA hS (fun b6 J G H locs hA hp hS => ?_)
  obtain ⟨PT, hc, hw⟩ := hw b6 J G hp
  refine lv_istore (lv' := [(6, .int b6), (5, .int r5), (4, .int (nI (7 * n))), (0, .ref bs), (1, .ref (a 0)), (2, .ref (b 0)), (3, .ref (a 47))]) hx hb dL_839 hl (by decide) rfl (fun ls hl => ?_)
  refine lv_aload_n hx hb dL_841 rfl (lv_at hl 5 rfl) ?_
  refine ll_i (va_runV (As := []) (rest := []) ⟨hx, hb, hml, hown, hts⟩ (c_MM_thrown l D b cI cZ hLA.2.1 J G H.size PT hc) (cwV 0 hts (tb_V (C := "CodeJudgeModel") wc_MM_thrown tw_4_177 tw_4_178 tw_4_179 tw_1_9) rfl rfl rfl (by decide +kernel) ⟨(Nat.le_of_ble_eq_true rfl), (Nat.le_of_ble_eq_true rfl)⟩) ⟨mP_bl, va_recv hK hA.2 rfl mw_0, ll_mat hA hK⟩ rfl rfl hl.1 rfl (lv_room (Nat.le_of_ble_eq_true rfl)) dL_842 ⟨by show _ ≤ 601024; omega, by show _ ≤ 7293034; omega⟩) hLA hA hS (fun t5 J G H locs hA hp hS => ?_)
  obtain ⟨rfl, hz⟩ := hw t5 J G hp
  refine lv_iload hx hb dL_845 (lv_at hl 1 rfl) ?_
  refine lv_icmp_eq (tgt := 852) hx hb dL_847 (by decide) (fun _ => ?_) (fun h => absurd rfl h)
  refine lv_iload hx hb dL_852 (lv_at hl 1 rfl) ?_
  obtain ⟨hv, hw⟩ := hz
  refine lv_if_ne (tgt := 869) hx hb dL_854 (by decide) (fun h => ?_) (fun h => ?_)
  · refine lv_goto (tgt := 1120) hx hb dL_869 (by decide) ?_
    refine W.widen (k := c0 + 3) (n := s0 + 18) (by omega) (by omega) ?_
    exact kk I F g J G H locs ls (lv_sub hl [2, 3, 4, 5, 6] rfl) hA hS hw
  · have hv := hv h
    refine lv_aload_n hx hb dL_857 rfl (lv_at hl 6 rfl) ?_
    refine lv_iconst (v := 0) hx hb dL_858 (by decide) ?_
    refine va_lald hx hb hK hA.1 47 3 lw_47 rfl (by unfold vp_in; decide) dL_859 ?_
    refine lv_iload hx hb dL_860 (lv_at hl 0 rfl) ?_
    refine lv_i2l (v := b6.toInt64) hx hb dL_862 rfl ?_
    refine W.lcmp hx hb dL_863 ?_
    refine lv_if_eq (tgt := 869) hx hb dL_864 (by decide) (fun _ => ?_) (fun h => absurd (lg_eq (hv)) h)
    refine lv_goto (tgt := 1120) hx hb dL_869 (by decide) ?_
    refine W.widen (k := c0 + 3) (n := s0 + 18) (by omega) (by omega) ?_
    exact kk I F g J G H locs ls (lv_sub hl [2, 3, 4, 5, 6] rfl) hA hS hw
def wpl_value (p1 : Int32) (p2 : Int32) (I : SI) (F : SF) (g : Nat → Int64) (J : SI) (G : SF) (Rel : SI → SF → SI → SF → Prop) : Prop := ∃ P : Int32 → SI → SF → (Nat → Int64) → Prop, wp_LW_value p1 p2 I F g P ∧ ∀ r5 I1 F1 g1, P r5 I1 F1 g1 → ∃ PM : Int32 → SI → SF → Prop, wp_MM_value p1 p2 J G PM ∧ ∀ b6 J1 G1, PM b6 J1 G1 → ∃ PT : Int32 → SI → SF → Prop, wp_MM_thrown J1 G1 PT ∧ ∀ t5 J2 G2, PT t5 J2 G2 → t5 = r5 ∧ (r5 = 0 → g1 (0 : Int32).toNatClampNeg = b6.toInt64) ∧ Rel I1 F1 J2 G2
set_option maxHeartbeats 4000000 in
set_option maxRecDepth 100000 in
theorem lc_value {p : Program} {l : Launch} {e : Env} {s : State} {m : MethodId} {below : List Frame} {meth : Method} {c : Code} {Q : State → Prop} {D : va_G} {a b : Nat → Nat} {cI cZ cQ cJ : ClassId} {bs L n c0 s0 : Nat} {xs : Nat → Int32} (hlt : l.stackTraces = false) (hLC : LC p s m meth c D a b cI cZ cQ cJ bs L xs) (hn : 7 * n + 7 ≤ L) (hL : L ≤ 3584) (hc0 : c0 + 3 ≤ 601024) (hs0 : s0 + 18 ≤ 7293034) (Rel : SI → SF → SI → SF → Prop)
    (I : SI) (F : SF) (g : Nat → Int64) (J : SI) (G : SF) (H : Heap) (locs : List Loc) (ls : Array Slot) (hl : lv_has ls 7 [(4, .int (nI (7 * n))), (0, .ref bs), (1, .ref (a 0)), (2, .ref (b 0)), (3, .ref (a 47))]) (hA : lSt D a b cI cZ cQ cJ I F g J G H) (hS : va_S (fun q => s.heap.size ≤ q) s.heap H locs) (hw : wpl_value (xs (nI (7 * n) + 1).toNatClampNeg) (xs (nI (7 * n) + 2).toNatClampNeg) I F g J G Rel)
    (kk : ∀ (I : SI) (F : SF) (g : Nat → Int64) (J : SI) (G : SF) (H : Heap) (locs : List Loc) (ls : Array Slot), lv_has ls 7 [(4, .int (nI (7 * n))), (0, .ref bs), (1, .ref (a 0)), (2, .ref (b 0)), (3, .ref (a 47))] → lSt D a b cI cZ cQ cJ I F g J G H → va_S (fun q => s.heap.size ≤ q) s.heap H locs → Rel I F J G → W p l e room_1 s m #[Value.ref bs] below meth c H locs (c0 + 3) (s0 + 18) Q (F0 m 1120 ls [])) : W p l e room_1 s m #[Value.ref bs] below meth c H locs c0 s0 Q (F0 m 872 ls []) := by
  obtain ⟨hx, hb, hml, hown, hts, hK, hN, hZ, hX, hC, hLA, hXs, hbs⟩ := hLC
  have hbA : ¬ s.heap.size ≤ bs := Nat.not_le.mpr hbs
  obtain ⟨P, hc, hw⟩ := hw
  refine lv_aload_n hx hb dL_872 rfl (lv_at hl 2 rfl) ?_
  refine lv_aload_n hx hb dL_873 rfl (lv_at hl 1 rfl) ?_
  refine lv_iload hx hb dL_874 (lv_at hl 0 rfl) ?_
  refine lv_iconst (v := 1) hx hb dL_876 (by decide) ?_
  refine lv_iadd hx hb dL_877 ?_
  refine va_sld hx hb hXs hbs hbA hS (xs_in (j := 1) hn hL (by decide)) dL_878 ?_
  refine lv_aload_n hx hb dL_879 rfl (lv_at hl 1 rfl) ?_
  refine lv_iload hx hb dL_880 (lv_at hl 0 rfl) ?_
  refine lv_iconst (v := 2) hx hb dL_882 (by decide) ?_
  refine lv_iadd hx hb dL_883 ?_
  refine va_sld hx hb hXs hbs hbA hS (xs_in (j := 2) hn hL (by decide)) dL_884 ?_
  refine lv_aload_n hx hb dL_885 rfl (lv_at hl 4 rfl) ?_
  refine ll_w (xw_runS (n := 4) (As := [.ref (a 0), .int (xs (nI (7 * n) + 1).toNatClampNeg), .int (xs (nI (7 * n) + 2).toNatClampNeg), .ref (a 47)]) (rest := []) ⟨hx, hb, hml, hown, hts⟩ (c_LW_value l hlt D a cI cZ cQ cJ hLA.1 I F g (xs (nI (7 * n) + 1).toNatClampNeg) (xs (nI (7 * n) + 2).toNatClampNeg) H.size P hc) wc_LW_value (hts _ tw_4_10) (hts _ tw_4_11) (hts _ tw_1_0) rfl rfl (by decide) (by decide +kernel) (by decide) (by decide) ⟨lP_bl, ll_at hA hK hN hZ hX hC hLA hS⟩ rfl rfl hl.1 rfl (lv_room (Nat.le_of_ble_eq_true rfl)) dL_886 ⟨by show _ ≤ 601024; omega, by show _ ≤ 7293034; omega⟩) hLA hA hS (fun r5 I F g H locs hA hp hS => ?_)
  obtain ⟨PM, hc, hw⟩ := hw r5 I F g hp
  refine lv_istore (lv' := [(5, .int r5), (4, .int (nI (7 * n))), (0, .ref bs), (1, .ref (a 0)), (2, .ref (b 0)), (3, .ref (a 47))]) hx hb dL_889 hl (by decide) rfl (fun ls hl => ?_)
  refine lv_aload_n hx hb dL_891 rfl (lv_at hl 4 rfl) ?_
  refine lv_aload_n hx hb dL_892 rfl (lv_at hl 2 rfl) ?_
  refine lv_iload hx hb dL_893 (lv_at hl 1 rfl) ?_
  refine lv_iconst (v := 1) hx hb dL_895 (by decide) ?_
  refine lv_iadd hx hb dL_896 ?_
  refine va_sld hx hb hXs hbs hbA hS (xs_in (j := 1) hn hL (by decide)) dL_897 ?_
  refine lv_aload_n hx hb dL_898 rfl (lv_at hl 2 rfl) ?_
  refine lv_iload hx hb dL_899 (lv_at hl 1 rfl) ?_
  refine lv_iconst (v := 2) hx hb dL_901 (by decide) ?_
  refine lv_iadd hx hb dL_902 ?_
  refine va_sld hx hb hXs hbs hbA hS (xs_in (j := 2) hn hL (by decide)) dL_903 ?_
  refine ll_i (va_runV (As := [.int (xs (nI (7 * n) + 1).toNatClampNeg), .int (xs (nI (7 * n) + 2).toNatClampNeg)]) (rest := []) ⟨hx, hb, hml, hown, hts⟩ (c_MM_value l D b cI cZ hLA.2.1 J G (xs (nI (7 * n) + 1).toNatClampNeg) (xs (nI (7 * n) + 2).toNatClampNeg) H.size PM hc) (cwV 2 hts (tb_V (C := "CodeJudgeModel") wc_MM_value tw_5_86 tw_5_87 tw_5_88 tw_1_9) rfl rfl rfl (by decide +kernel) ⟨(Nat.le_of_ble_eq_true rfl), (Nat.le_of_ble_eq_true rfl)⟩) ⟨mP_bl, va_recv hK hA.2 rfl mw_0, ll_mat hA hK⟩ rfl rfl hl.1 rfl (lv_room (Nat.le_of_ble_eq_true rfl)) dL_904 ⟨by show _ ≤ 601024; omega, by show _ ≤ 7293034; omega⟩) hLA hA hS (fun b6 J G H locs hA hp hS => ?_)
  obtain ⟨PT, hc, hw⟩ := hw b6 J G hp
  refine lv_istore (lv' := [(6, .int b6), (5, .int r5), (4, .int (nI (7 * n))), (0, .ref bs), (1, .ref (a 0)), (2, .ref (b 0)), (3, .ref (a 47))]) hx hb dL_907 hl (by decide) rfl (fun ls hl => ?_)
  refine lv_aload_n hx hb dL_909 rfl (lv_at hl 5 rfl) ?_
  refine ll_i (va_runV (As := []) (rest := []) ⟨hx, hb, hml, hown, hts⟩ (c_MM_thrown l D b cI cZ hLA.2.1 J G H.size PT hc) (cwV 0 hts (tb_V (C := "CodeJudgeModel") wc_MM_thrown tw_4_177 tw_4_178 tw_4_179 tw_1_9) rfl rfl rfl (by decide +kernel) ⟨(Nat.le_of_ble_eq_true rfl), (Nat.le_of_ble_eq_true rfl)⟩) ⟨mP_bl, va_recv hK hA.2 rfl mw_0, ll_mat hA hK⟩ rfl rfl hl.1 rfl (lv_room (Nat.le_of_ble_eq_true rfl)) dL_910 ⟨by show _ ≤ 601024; omega, by show _ ≤ 7293034; omega⟩) hLA hA hS (fun t5 J G H locs hA hp hS => ?_)
  obtain ⟨rfl, hz⟩ := hw t5 J G hp
  refine lv_iload hx hb dL_913 (lv_at hl 1 rfl) ?_
  refine lv_icmp_eq (tgt := 920) hx hb dL_915 (by decide) (fun _ => ?_) (fun h => absurd rfl h)
  refine lv_iload hx hb dL_920 (lv_at hl 1 rfl) ?_
  obtain ⟨hv, hw⟩ := hz
  refine lv_if_ne (tgt := 937) hx hb dL_922 (by decide) (fun h => ?_) (fun h => ?_)
  · refine lv_goto (tgt := 1120) hx hb dL_937 (by decide) ?_
    refine W.widen (k := c0 + 3) (n := s0 + 18) (by omega) (by omega) ?_
    exact kk I F g J G H locs ls (lv_sub hl [2, 3, 4, 5, 6] rfl) hA hS hw
  · have hv := hv h
    refine lv_aload_n hx hb dL_925 rfl (lv_at hl 6 rfl) ?_
    refine lv_iconst (v := 0) hx hb dL_926 (by decide) ?_
    refine va_lald hx hb hK hA.1 47 3 lw_47 rfl (by unfold vp_in; decide) dL_927 ?_
    refine lv_iload hx hb dL_928 (lv_at hl 0 rfl) ?_
    refine lv_i2l (v := b6.toInt64) hx hb dL_930 rfl ?_
    refine W.lcmp hx hb dL_931 ?_
    refine lv_if_eq (tgt := 937) hx hb dL_932 (by decide) (fun _ => ?_) (fun h => absurd (lg_eq (hv)) h)
    refine lv_goto (tgt := 1120) hx hb dL_937 (by decide) ?_
    refine W.widen (k := c0 + 3) (n := s0 + 18) (by omega) (by omega) ?_
    exact kk I F g J G H locs ls (lv_sub hl [2, 3, 4, 5, 6] rfl) hA hS hw
def wpl_cell (p1 : Int32) (p2 : Int32) (I : SI) (F : SF) (g : Nat → Int64) (J : SI) (G : SF) (Rel : SI → SF → SI → SF → Prop) : Prop := ∃ P : Int32 → SI → SF → (Nat → Int64) → Prop, wp_LW_cell p1 p2 I F g P ∧ ∀ r5 I1 F1 g1, P r5 I1 F1 g1 → ∃ PM : Int32 → SI → SF → Prop, wp_MM_cell p1 p2 J G PM ∧ ∀ b6 J1 G1, PM b6 J1 G1 → ∃ PT : Int32 → SI → SF → Prop, wp_MM_thrown J1 G1 PT ∧ ∀ t5 J2 G2, PT t5 J2 G2 → t5 = r5 ∧ (r5 = 0 → g1 (0 : Int32).toNatClampNeg = b6.toInt64) ∧ Rel I1 F1 J2 G2
set_option maxHeartbeats 4000000 in
set_option maxRecDepth 100000 in
theorem lc_cell {p : Program} {l : Launch} {e : Env} {s : State} {m : MethodId} {below : List Frame} {meth : Method} {c : Code} {Q : State → Prop} {D : va_G} {a b : Nat → Nat} {cI cZ cQ cJ : ClassId} {bs L n c0 s0 : Nat} {xs : Nat → Int32} (hlt : l.stackTraces = false) (hLC : LC p s m meth c D a b cI cZ cQ cJ bs L xs) (hn : 7 * n + 7 ≤ L) (hL : L ≤ 3584) (hc0 : c0 + 3 ≤ 601024) (hs0 : s0 + 18 ≤ 7293034) (Rel : SI → SF → SI → SF → Prop)
    (I : SI) (F : SF) (g : Nat → Int64) (J : SI) (G : SF) (H : Heap) (locs : List Loc) (ls : Array Slot) (hl : lv_has ls 7 [(4, .int (nI (7 * n))), (0, .ref bs), (1, .ref (a 0)), (2, .ref (b 0)), (3, .ref (a 47))]) (hA : lSt D a b cI cZ cQ cJ I F g J G H) (hS : va_S (fun q => s.heap.size ≤ q) s.heap H locs) (hw : wpl_cell (xs (nI (7 * n) + 1).toNatClampNeg) (xs (nI (7 * n) + 2).toNatClampNeg) I F g J G Rel)
    (kk : ∀ (I : SI) (F : SF) (g : Nat → Int64) (J : SI) (G : SF) (H : Heap) (locs : List Loc) (ls : Array Slot), lv_has ls 7 [(4, .int (nI (7 * n))), (0, .ref bs), (1, .ref (a 0)), (2, .ref (b 0)), (3, .ref (a 47))] → lSt D a b cI cZ cQ cJ I F g J G H → va_S (fun q => s.heap.size ≤ q) s.heap H locs → Rel I F J G → W p l e room_1 s m #[Value.ref bs] below meth c H locs (c0 + 3) (s0 + 18) Q (F0 m 1120 ls [])) : W p l e room_1 s m #[Value.ref bs] below meth c H locs c0 s0 Q (F0 m 940 ls []) := by
  obtain ⟨hx, hb, hml, hown, hts, hK, hN, hZ, hX, hC, hLA, hXs, hbs⟩ := hLC
  have hbA : ¬ s.heap.size ≤ bs := Nat.not_le.mpr hbs
  obtain ⟨P, hc, hw⟩ := hw
  refine lv_aload_n hx hb dL_940 rfl (lv_at hl 2 rfl) ?_
  refine lv_aload_n hx hb dL_941 rfl (lv_at hl 1 rfl) ?_
  refine lv_iload hx hb dL_942 (lv_at hl 0 rfl) ?_
  refine lv_iconst (v := 1) hx hb dL_944 (by decide) ?_
  refine lv_iadd hx hb dL_945 ?_
  refine va_sld hx hb hXs hbs hbA hS (xs_in (j := 1) hn hL (by decide)) dL_946 ?_
  refine lv_aload_n hx hb dL_947 rfl (lv_at hl 1 rfl) ?_
  refine lv_iload hx hb dL_948 (lv_at hl 0 rfl) ?_
  refine lv_iconst (v := 2) hx hb dL_950 (by decide) ?_
  refine lv_iadd hx hb dL_951 ?_
  refine va_sld hx hb hXs hbs hbA hS (xs_in (j := 2) hn hL (by decide)) dL_952 ?_
  refine lv_aload_n hx hb dL_953 rfl (lv_at hl 4 rfl) ?_
  refine ll_w (xw_runS (n := 4) (As := [.ref (a 0), .int (xs (nI (7 * n) + 1).toNatClampNeg), .int (xs (nI (7 * n) + 2).toNatClampNeg), .ref (a 47)]) (rest := []) ⟨hx, hb, hml, hown, hts⟩ (c_LW_cell l hlt D a cI cZ cQ cJ hLA.1 I F g (xs (nI (7 * n) + 1).toNatClampNeg) (xs (nI (7 * n) + 2).toNatClampNeg) H.size P hc) wc_LW_cell (hts _ tw_4_21) (hts _ tw_4_22) (hts _ tw_1_0) rfl rfl (by decide) (by decide +kernel) (by decide) (by decide) ⟨lP_bl, ll_at hA hK hN hZ hX hC hLA hS⟩ rfl rfl hl.1 rfl (lv_room (Nat.le_of_ble_eq_true rfl)) dL_954 ⟨by show _ ≤ 601024; omega, by show _ ≤ 7293034; omega⟩) hLA hA hS (fun r5 I F g H locs hA hp hS => ?_)
  obtain ⟨PM, hc, hw⟩ := hw r5 I F g hp
  refine lv_istore (lv' := [(5, .int r5), (4, .int (nI (7 * n))), (0, .ref bs), (1, .ref (a 0)), (2, .ref (b 0)), (3, .ref (a 47))]) hx hb dL_957 hl (by decide) rfl (fun ls hl => ?_)
  refine lv_aload_n hx hb dL_959 rfl (lv_at hl 4 rfl) ?_
  refine lv_aload_n hx hb dL_960 rfl (lv_at hl 2 rfl) ?_
  refine lv_iload hx hb dL_961 (lv_at hl 1 rfl) ?_
  refine lv_iconst (v := 1) hx hb dL_963 (by decide) ?_
  refine lv_iadd hx hb dL_964 ?_
  refine va_sld hx hb hXs hbs hbA hS (xs_in (j := 1) hn hL (by decide)) dL_965 ?_
  refine lv_aload_n hx hb dL_966 rfl (lv_at hl 2 rfl) ?_
  refine lv_iload hx hb dL_967 (lv_at hl 1 rfl) ?_
  refine lv_iconst (v := 2) hx hb dL_969 (by decide) ?_
  refine lv_iadd hx hb dL_970 ?_
  refine va_sld hx hb hXs hbs hbA hS (xs_in (j := 2) hn hL (by decide)) dL_971 ?_
  refine ll_i (va_runV (As := [.int (xs (nI (7 * n) + 1).toNatClampNeg), .int (xs (nI (7 * n) + 2).toNatClampNeg)]) (rest := []) ⟨hx, hb, hml, hown, hts⟩ (c_MM_cell l D b cI cZ hLA.2.1 J G (xs (nI (7 * n) + 1).toNatClampNeg) (xs (nI (7 * n) + 2).toNatClampNeg) H.size PM hc) (cwV 2 hts (tb_V (C := "CodeJudgeModel") wc_MM_cell tw_5_90 tw_5_91 tw_5_92 tw_1_9) rfl rfl rfl (by decide +kernel) ⟨(Nat.le_of_ble_eq_true rfl), (Nat.le_of_ble_eq_true rfl)⟩) ⟨mP_bl, va_recv hK hA.2 rfl mw_0, ll_mat hA hK⟩ rfl rfl hl.1 rfl (lv_room (Nat.le_of_ble_eq_true rfl)) dL_972 ⟨by show _ ≤ 601024; omega, by show _ ≤ 7293034; omega⟩) hLA hA hS (fun b6 J G H locs hA hp hS => ?_)
  obtain ⟨PT, hc, hw⟩ := hw b6 J G hp
  refine lv_istore (lv' := [(6, .int b6), (5, .int r5), (4, .int (nI (7 * n))), (0, .ref bs), (1, .ref (a 0)), (2, .ref (b 0)), (3, .ref (a 47))]) hx hb dL_975 hl (by decide) rfl (fun ls hl => ?_)
  refine lv_aload_n hx hb dL_977 rfl (lv_at hl 5 rfl) ?_
  refine ll_i (va_runV (As := []) (rest := []) ⟨hx, hb, hml, hown, hts⟩ (c_MM_thrown l D b cI cZ hLA.2.1 J G H.size PT hc) (cwV 0 hts (tb_V (C := "CodeJudgeModel") wc_MM_thrown tw_4_177 tw_4_178 tw_4_179 tw_1_9) rfl rfl rfl (by decide +kernel) ⟨(Nat.le_of_ble_eq_true rfl), (Nat.le_of_ble_eq_true rfl)⟩) ⟨mP_bl, va_recv hK hA.2 rfl mw_0, ll_mat hA hK⟩ rfl rfl hl.1 rfl (lv_room (Nat.le_of_ble_eq_true rfl)) dL_978 ⟨by show _ ≤ 601024; omega, by show _ ≤ 7293034; omega⟩) hLA hA hS (fun t5 J G H locs hA hp hS => ?_)
  obtain ⟨rfl, hz⟩ := hw t5 J G hp
  refine lv_iload hx hb dL_981 (lv_at hl 1 rfl) ?_
  refine lv_icmp_eq (tgt := 988) hx hb dL_983 (by decide) (fun _ => ?_) (fun h => absurd rfl h)
  refine lv_iload hx hb dL_988 (lv_at hl 1 rfl) ?_
  obtain ⟨hv, hw⟩ := hz
  refine lv_if_ne (tgt := 1005) hx hb dL_990 (by decide) (fun h => ?_) (fun h => ?_)
  · refine lv_goto (tgt := 1120) hx hb dL_1005 (by decide) ?_
    refine W.widen (k := c0 + 3) (n := s0 + 18) (by omega) (by omega) ?_
    exact kk I F g J G H locs ls (lv_sub hl [2, 3, 4, 5, 6] rfl) hA hS hw
  · have hv := hv h
    refine lv_aload_n hx hb dL_993 rfl (lv_at hl 6 rfl) ?_
    refine lv_iconst (v := 0) hx hb dL_994 (by decide) ?_
    refine va_lald hx hb hK hA.1 47 3 lw_47 rfl (by unfold vp_in; decide) dL_995 ?_
    refine lv_iload hx hb dL_996 (lv_at hl 0 rfl) ?_
    refine lv_i2l (v := b6.toInt64) hx hb dL_998 rfl ?_
    refine W.lcmp hx hb dL_999 ?_
    refine lv_if_eq (tgt := 1005) hx hb dL_1000 (by decide) (fun _ => ?_) (fun h => absurd (lg_eq (hv)) h)
    refine lv_goto (tgt := 1120) hx hb dL_1005 (by decide) ?_
    refine W.widen (k := c0 + 3) (n := s0 + 18) (by omega) (by omega) ?_
    exact kk I F g J G H locs ls (lv_sub hl [2, 3, 4, 5, 6] rfl) hA hS hw
def wpl_output (p1 : Int32) (I : SI) (F : SF) (g : Nat → Int64) (J : SI) (G : SF) (Rel : SI → SF → SI → SF → Prop) : Prop := ∃ P : Int32 → SI → SF → (Nat → Int64) → Prop, wp_LW_output p1 I F g P ∧ ∀ r5 I1 F1 g1, P r5 I1 F1 g1 → ∃ PM : Int32 → SI → SF → Prop, wp_MM_output p1 J G PM ∧ ∀ b6 J1 G1, PM b6 J1 G1 → ∃ PT : Int32 → SI → SF → Prop, wp_MM_thrown J1 G1 PT ∧ ∀ t5 J2 G2, PT t5 J2 G2 → t5 = r5 ∧ (r5 = 0 → g1 (0 : Int32).toNatClampNeg = b6.toInt64) ∧ Rel I1 F1 J2 G2
set_option maxHeartbeats 4000000 in
set_option maxRecDepth 100000 in
theorem lc_output {p : Program} {l : Launch} {e : Env} {s : State} {m : MethodId} {below : List Frame} {meth : Method} {c : Code} {Q : State → Prop} {D : va_G} {a b : Nat → Nat} {cI cZ cQ cJ : ClassId} {bs L n c0 s0 : Nat} {xs : Nat → Int32} (hlt : l.stackTraces = false) (hLC : LC p s m meth c D a b cI cZ cQ cJ bs L xs) (hn : 7 * n + 7 ≤ L) (hL : L ≤ 3584) (hc0 : c0 + 3 ≤ 601024) (hs0 : s0 + 18 ≤ 7293034) (Rel : SI → SF → SI → SF → Prop)
    (I : SI) (F : SF) (g : Nat → Int64) (J : SI) (G : SF) (H : Heap) (locs : List Loc) (ls : Array Slot) (hl : lv_has ls 7 [(4, .int (nI (7 * n))), (0, .ref bs), (1, .ref (a 0)), (2, .ref (b 0)), (3, .ref (a 47))]) (hA : lSt D a b cI cZ cQ cJ I F g J G H) (hS : va_S (fun q => s.heap.size ≤ q) s.heap H locs) (hw : wpl_output (xs (nI (7 * n) + 1).toNatClampNeg) I F g J G Rel)
    (kk : ∀ (I : SI) (F : SF) (g : Nat → Int64) (J : SI) (G : SF) (H : Heap) (locs : List Loc) (ls : Array Slot), lv_has ls 7 [(4, .int (nI (7 * n))), (0, .ref bs), (1, .ref (a 0)), (2, .ref (b 0)), (3, .ref (a 47))] → lSt D a b cI cZ cQ cJ I F g J G H → va_S (fun q => s.heap.size ≤ q) s.heap H locs → Rel I F J G → W p l e room_1 s m #[Value.ref bs] below meth c H locs (c0 + 3) (s0 + 18) Q (F0 m 1120 ls [])) : W p l e room_1 s m #[Value.ref bs] below meth c H locs c0 s0 Q (F0 m 1008 ls []) := by
  obtain ⟨hx, hb, hml, hown, hts, hK, hN, hZ, hX, hC, hLA, hXs, hbs⟩ := hLC
  have hbA : ¬ s.heap.size ≤ bs := Nat.not_le.mpr hbs
  obtain ⟨P, hc, hw⟩ := hw
  refine lv_aload_n hx hb dL_1008 rfl (lv_at hl 2 rfl) ?_
  refine lv_aload_n hx hb dL_1009 rfl (lv_at hl 1 rfl) ?_
  refine lv_iload hx hb dL_1010 (lv_at hl 0 rfl) ?_
  refine lv_iconst (v := 1) hx hb dL_1012 (by decide) ?_
  refine lv_iadd hx hb dL_1013 ?_
  refine va_sld hx hb hXs hbs hbA hS (xs_in (j := 1) hn hL (by decide)) dL_1014 ?_
  refine lv_aload_n hx hb dL_1015 rfl (lv_at hl 4 rfl) ?_
  refine ll_w (xw_runS (n := 3) (As := [.ref (a 0), .int (xs (nI (7 * n) + 1).toNatClampNeg), .ref (a 47)]) (rest := []) ⟨hx, hb, hml, hown, hts⟩ (c_LW_output l hlt D a cI cZ cQ cJ hLA.1 I F g (xs (nI (7 * n) + 1).toNatClampNeg) H.size P hc) wc_LW_output (hts _ tw_4_32) (hts _ tw_4_33) (hts _ tw_1_0) rfl rfl (by decide) (by decide +kernel) (by decide) (by decide) ⟨lP_bl, ll_at hA hK hN hZ hX hC hLA hS⟩ rfl rfl hl.1 rfl (lv_room (Nat.le_of_ble_eq_true rfl)) dL_1016 ⟨by show _ ≤ 601024; omega, by show _ ≤ 7293034; omega⟩) hLA hA hS (fun r5 I F g H locs hA hp hS => ?_)
  obtain ⟨PM, hc, hw⟩ := hw r5 I F g hp
  refine lv_istore (lv' := [(5, .int r5), (4, .int (nI (7 * n))), (0, .ref bs), (1, .ref (a 0)), (2, .ref (b 0)), (3, .ref (a 47))]) hx hb dL_1019 hl (by decide) rfl (fun ls hl => ?_)
  refine lv_aload_n hx hb dL_1021 rfl (lv_at hl 4 rfl) ?_
  refine lv_aload_n hx hb dL_1022 rfl (lv_at hl 2 rfl) ?_
  refine lv_iload hx hb dL_1023 (lv_at hl 1 rfl) ?_
  refine lv_iconst (v := 1) hx hb dL_1025 (by decide) ?_
  refine lv_iadd hx hb dL_1026 ?_
  refine va_sld hx hb hXs hbs hbA hS (xs_in (j := 1) hn hL (by decide)) dL_1027 ?_
  refine ll_i (va_runV (As := [.int (xs (nI (7 * n) + 1).toNatClampNeg)]) (rest := []) ⟨hx, hb, hml, hown, hts⟩ (c_MM_output l D b cI cZ hLA.2.1 J G (xs (nI (7 * n) + 1).toNatClampNeg) H.size PM hc) (cwV 1 hts (tb_V (C := "CodeJudgeModel") wc_MM_output tw_5_94 tw_5_95 tw_5_96 tw_1_9) rfl rfl rfl (by decide +kernel) ⟨(Nat.le_of_ble_eq_true rfl), (Nat.le_of_ble_eq_true rfl)⟩) ⟨mP_bl, va_recv hK hA.2 rfl mw_0, ll_mat hA hK⟩ rfl rfl hl.1 rfl (lv_room (Nat.le_of_ble_eq_true rfl)) dL_1028 ⟨by show _ ≤ 601024; omega, by show _ ≤ 7293034; omega⟩) hLA hA hS (fun b6 J G H locs hA hp hS => ?_)
  obtain ⟨PT, hc, hw⟩ := hw b6 J G hp
  refine lv_istore (lv' := [(6, .int b6), (5, .int r5), (4, .int (nI (7 * n))), (0, .ref bs), (1, .ref (a 0)), (2, .ref (b 0)), (3, .ref (a 47))]) hx hb dL_1031 hl (by decide) rfl (fun ls hl => ?_)
  refine lv_aload_n hx hb dL_1033 rfl (lv_at hl 5 rfl) ?_
  refine ll_i (va_runV (As := []) (rest := []) ⟨hx, hb, hml, hown, hts⟩ (c_MM_thrown l D b cI cZ hLA.2.1 J G H.size PT hc) (cwV 0 hts (tb_V (C := "CodeJudgeModel") wc_MM_thrown tw_4_177 tw_4_178 tw_4_179 tw_1_9) rfl rfl rfl (by decide +kernel) ⟨(Nat.le_of_ble_eq_true rfl), (Nat.le_of_ble_eq_true rfl)⟩) ⟨mP_bl, va_recv hK hA.2 rfl mw_0, ll_mat hA hK⟩ rfl rfl hl.1 rfl (lv_room (Nat.le_of_ble_eq_true rfl)) dL_1034 ⟨by show _ ≤ 601024; omega, by show _ ≤ 7293034; omega⟩) hLA hA hS (fun t5 J G H locs hA hp hS => ?_)
  obtain ⟨rfl, hz⟩ := hw t5 J G hp
  refine lv_iload hx hb dL_1037 (lv_at hl 1 rfl) ?_
  refine lv_icmp_eq (tgt := 1044) hx hb dL_1039 (by decide) (fun _ => ?_) (fun h => absurd rfl h)
  refine lv_iload hx hb dL_1044 (lv_at hl 1 rfl) ?_
  obtain ⟨hv, hw⟩ := hz
  refine lv_if_ne (tgt := 1061) hx hb dL_1046 (by decide) (fun h => ?_) (fun h => ?_)
  · refine lv_goto (tgt := 1120) hx hb dL_1061 (by decide) ?_
    refine W.widen (k := c0 + 3) (n := s0 + 18) (by omega) (by omega) ?_
    exact kk I F g J G H locs ls (lv_sub hl [2, 3, 4, 5, 6] rfl) hA hS hw
  · have hv := hv h
    refine lv_aload_n hx hb dL_1049 rfl (lv_at hl 6 rfl) ?_
    refine lv_iconst (v := 0) hx hb dL_1050 (by decide) ?_
    refine va_lald hx hb hK hA.1 47 3 lw_47 rfl (by unfold vp_in; decide) dL_1051 ?_
    refine lv_iload hx hb dL_1052 (lv_at hl 0 rfl) ?_
    refine lv_i2l (v := b6.toInt64) hx hb dL_1054 rfl ?_
    refine W.lcmp hx hb dL_1055 ?_
    refine lv_if_eq (tgt := 1061) hx hb dL_1056 (by decide) (fun _ => ?_) (fun h => absurd (lg_eq (hv)) h)
    refine lv_goto (tgt := 1120) hx hb dL_1061 (by decide) ?_
    refine W.widen (k := c0 + 3) (n := s0 + 18) (by omega) (by omega) ?_
    exact kk I F g J G H locs ls (lv_sub hl [2, 3, 4, 5, 6] rfl) hA hS hw
def wpl_count (p1 : Int32) (I : SI) (F : SF) (g : Nat → Int64) (J : SI) (G : SF) (Rel : SI → SF → SI → SF → Prop) : Prop := ∃ P : Int32 → SI → SF → (Nat → Int64) → Prop, wp_LW_count p1 I F g P ∧ ∀ r5 I1 F1 g1, P r5 I1 F1 g1 → ∃ PM : Int32 → SI → SF → Prop, wp_MM_count p1 J G PM ∧ ∀ b6 J1 G1, PM b6 J1 G1 → ∃ PT : Int32 → SI → SF → Prop, wp_MM_thrown J1 G1 PT ∧ ∀ t5 J2 G2, PT t5 J2 G2 → t5 = r5 ∧ (r5 = 0 → g1 (0 : Int32).toNatClampNeg = b6.toInt64) ∧ Rel I1 F1 J2 G2
set_option maxHeartbeats 4000000 in
set_option maxRecDepth 100000 in
theorem lc_count {p : Program} {l : Launch} {e : Env} {s : State} {m : MethodId} {below : List Frame} {meth : Method} {c : Code} {Q : State → Prop} {D : va_G} {a b : Nat → Nat} {cI cZ cQ cJ : ClassId} {bs L n c0 s0 : Nat} {xs : Nat → Int32} (hlt : l.stackTraces = false) (hLC : LC p s m meth c D a b cI cZ cQ cJ bs L xs) (hn : 7 * n + 7 ≤ L) (hL : L ≤ 3584) (hc0 : c0 + 3 ≤ 601024) (hs0 : s0 + 18 ≤ 7293034) (Rel : SI → SF → SI → SF → Prop)
    (I : SI) (F : SF) (g : Nat → Int64) (J : SI) (G : SF) (H : Heap) (locs : List Loc) (ls : Array Slot) (hl : lv_has ls 7 [(4, .int (nI (7 * n))), (0, .ref bs), (1, .ref (a 0)), (2, .ref (b 0)), (3, .ref (a 47))]) (hA : lSt D a b cI cZ cQ cJ I F g J G H) (hS : va_S (fun q => s.heap.size ≤ q) s.heap H locs) (hw : wpl_count (xs (nI (7 * n) + 1).toNatClampNeg) I F g J G Rel)
    (kk : ∀ (I : SI) (F : SF) (g : Nat → Int64) (J : SI) (G : SF) (H : Heap) (locs : List Loc) (ls : Array Slot), lv_has ls 7 [(4, .int (nI (7 * n))), (0, .ref bs), (1, .ref (a 0)), (2, .ref (b 0)), (3, .ref (a 47))] → lSt D a b cI cZ cQ cJ I F g J G H → va_S (fun q => s.heap.size ≤ q) s.heap H locs → Rel I F J G → W p l e room_1 s m #[Value.ref bs] below meth c H locs (c0 + 3) (s0 + 18) Q (F0 m 1120 ls [])) : W p l e room_1 s m #[Value.ref bs] below meth c H locs c0 s0 Q (F0 m 1064 ls []) := by
  obtain ⟨hx, hb, hml, hown, hts, hK, hN, hZ, hX, hC, hLA, hXs, hbs⟩ := hLC
  have hbA : ¬ s.heap.size ≤ bs := Nat.not_le.mpr hbs
  obtain ⟨P, hc, hw⟩ := hw
  refine lv_aload_n hx hb dL_1064 rfl (lv_at hl 2 rfl) ?_
  refine lv_aload_n hx hb dL_1065 rfl (lv_at hl 1 rfl) ?_
  refine lv_iload hx hb dL_1066 (lv_at hl 0 rfl) ?_
  refine lv_iconst (v := 1) hx hb dL_1068 (by decide) ?_
  refine lv_iadd hx hb dL_1069 ?_
  refine va_sld hx hb hXs hbs hbA hS (xs_in (j := 1) hn hL (by decide)) dL_1070 ?_
  refine lv_aload_n hx hb dL_1071 rfl (lv_at hl 4 rfl) ?_
  refine ll_w (xw_runS (n := 3) (As := [.ref (a 0), .int (xs (nI (7 * n) + 1).toNatClampNeg), .ref (a 47)]) (rest := []) ⟨hx, hb, hml, hown, hts⟩ (c_LW_count l hlt D a cI cZ cQ cJ hLA.1 I F g (xs (nI (7 * n) + 1).toNatClampNeg) H.size P hc) wc_LW_count (hts _ tw_4_49) (hts _ tw_4_50) (hts _ tw_1_0) rfl rfl (by decide) (by decide +kernel) (by decide) (by decide) ⟨lP_bl, ll_at hA hK hN hZ hX hC hLA hS⟩ rfl rfl hl.1 rfl (lv_room (Nat.le_of_ble_eq_true rfl)) dL_1072 ⟨by show _ ≤ 601024; omega, by show _ ≤ 7293034; omega⟩) hLA hA hS (fun r5 I F g H locs hA hp hS => ?_)
  obtain ⟨PM, hc, hw⟩ := hw r5 I F g hp
  refine lv_istore (lv' := [(5, .int r5), (4, .int (nI (7 * n))), (0, .ref bs), (1, .ref (a 0)), (2, .ref (b 0)), (3, .ref (a 47))]) hx hb dL_1075 hl (by decide) rfl (fun ls hl => ?_)
  refine lv_aload_n hx hb dL_1077 rfl (lv_at hl 4 rfl) ?_
  refine lv_aload_n hx hb dL_1078 rfl (lv_at hl 2 rfl) ?_
  refine lv_iload hx hb dL_1079 (lv_at hl 1 rfl) ?_
  refine lv_iconst (v := 1) hx hb dL_1081 (by decide) ?_
  refine lv_iadd hx hb dL_1082 ?_
  refine va_sld hx hb hXs hbs hbA hS (xs_in (j := 1) hn hL (by decide)) dL_1083 ?_
  refine ll_i (va_runV (As := [.int (xs (nI (7 * n) + 1).toNatClampNeg)]) (rest := []) ⟨hx, hb, hml, hown, hts⟩ (c_MM_count l D b cI cZ hLA.2.1 J G (xs (nI (7 * n) + 1).toNatClampNeg) H.size PM hc) (cwV 1 hts (tb_V (C := "CodeJudgeModel") wc_MM_count tw_5_98 tw_5_99 tw_5_100 tw_1_9) rfl rfl rfl (by decide +kernel) ⟨(Nat.le_of_ble_eq_true rfl), (Nat.le_of_ble_eq_true rfl)⟩) ⟨mP_bl, va_recv hK hA.2 rfl mw_0, ll_mat hA hK⟩ rfl rfl hl.1 rfl (lv_room (Nat.le_of_ble_eq_true rfl)) dL_1084 ⟨by show _ ≤ 601024; omega, by show _ ≤ 7293034; omega⟩) hLA hA hS (fun b6 J G H locs hA hp hS => ?_)
  obtain ⟨PT, hc, hw⟩ := hw b6 J G hp
  refine lv_istore (lv' := [(6, .int b6), (5, .int r5), (4, .int (nI (7 * n))), (0, .ref bs), (1, .ref (a 0)), (2, .ref (b 0)), (3, .ref (a 47))]) hx hb dL_1087 hl (by decide) rfl (fun ls hl => ?_)
  refine lv_aload_n hx hb dL_1089 rfl (lv_at hl 5 rfl) ?_
  refine ll_i (va_runV (As := []) (rest := []) ⟨hx, hb, hml, hown, hts⟩ (c_MM_thrown l D b cI cZ hLA.2.1 J G H.size PT hc) (cwV 0 hts (tb_V (C := "CodeJudgeModel") wc_MM_thrown tw_4_177 tw_4_178 tw_4_179 tw_1_9) rfl rfl rfl (by decide +kernel) ⟨(Nat.le_of_ble_eq_true rfl), (Nat.le_of_ble_eq_true rfl)⟩) ⟨mP_bl, va_recv hK hA.2 rfl mw_0, ll_mat hA hK⟩ rfl rfl hl.1 rfl (lv_room (Nat.le_of_ble_eq_true rfl)) dL_1090 ⟨by show _ ≤ 601024; omega, by show _ ≤ 7293034; omega⟩) hLA hA hS (fun t5 J G H locs hA hp hS => ?_)
  obtain ⟨rfl, hz⟩ := hw t5 J G hp
  refine lv_iload hx hb dL_1093 (lv_at hl 1 rfl) ?_
  refine lv_icmp_eq (tgt := 1100) hx hb dL_1095 (by decide) (fun _ => ?_) (fun h => absurd rfl h)
  refine lv_iload hx hb dL_1100 (lv_at hl 1 rfl) ?_
  obtain ⟨hv, hw⟩ := hz
  refine lv_if_ne (tgt := 1117) hx hb dL_1102 (by decide) (fun h => ?_) (fun h => ?_)
  · refine lv_goto (tgt := 1120) hx hb dL_1117 (by decide) ?_
    refine W.widen (k := c0 + 3) (n := s0 + 18) (by omega) (by omega) ?_
    exact kk I F g J G H locs ls (lv_sub hl [2, 3, 4, 5, 6] rfl) hA hS hw
  · have hv := hv h
    refine lv_aload_n hx hb dL_1105 rfl (lv_at hl 6 rfl) ?_
    refine lv_iconst (v := 0) hx hb dL_1106 (by decide) ?_
    refine va_lald hx hb hK hA.1 47 3 lw_47 rfl (by unfold vp_in; decide) dL_1107 ?_
    refine lv_iload hx hb dL_1108 (lv_at hl 0 rfl) ?_
    refine lv_i2l (v := b6.toInt64) hx hb dL_1110 rfl ?_
    refine W.lcmp hx hb dL_1111 ?_
    refine lv_if_eq (tgt := 1117) hx hb dL_1112 (by decide) (fun _ => ?_) (fun h => absurd (lg_eq (hv)) h)
    refine lv_goto (tgt := 1120) hx hb dL_1117 (by decide) ?_
    refine W.widen (k := c0 + 3) (n := s0 + 18) (by omega) (by omega) ?_
    exact kk I F g J G H locs ls (lv_sub hl [2, 3, 4, 5, 6] rfl) hA hS hw
