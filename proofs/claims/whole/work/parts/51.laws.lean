set_option maxHeartbeats 4000000 in
set_option maxRecDepth 100000 in
theorem op_put {p : Program} {l : Launch} {e : Env} {s : State} {m : MethodId} {below : List Frame} {meth : Method} {c : Code} {b L : Nat} {xs : Nat → Int32} {G : va_G} {aX : Nat → Nat} {CX : Nat → ClassId} {aM : Nat → Nat} {CM : Nat → ClassId} {oo : Nat} {Co : ClassId} (h : LC p s m meth c b L xs G aX CX aM CM oo Co) {Q : State → Prop} {cells slots : Nat} (hcs : cells + 1 ≤ 1047) (hss : slots + 6 ≤ 9875) {t : Nat} (ht : 7 * t + 7 ≤ L) {K D K2 D2 K3 D3 : Nat → Int64} {Wt O W2 O2 : Nat → Int32} {n n2 : Int32} {f f2 : Nat → Int64} {T T2 : Nat → Bool} {w w2 : Nat → Int32} {th k : Int32} {rmM : Room} (hrm : rmM.cells = 0 ∧ rmM.slots = 0 ∧ rmM.frames ≤ 2 ∧ rmM.locals ≤ 60) {x0 : Int32} (hx0 : xs (7 * t + 1) = x0) {x1 : Int64} (hx1 : ft_lg (xs (7 * t + 2)) (xs (7 * t + 3)) = x1) {x2 : Int64} (hx2 : ft_lg (xs (7 * t + 4)) (xs (7 * t + 5)) = x2) {x3 : Int32} (hx3 : xs (7 * t + 6) = x3) {bv : Int32} (hw : Met l yL_put wsL_put { frames := 8, cells := 1, slots := 6, locals := 150 } (va_Pc [.ref (aX 0), .int x0, .long x1, .long x2, .int x3, .ref oo] (bXo G aX CX K D Wt O n oo Co f)) (wr_Q G vwCl (some (.int k)) (wXo aX CX K2 D2 W2 O2 n2 oo Co f2) (aXo aX oo)) 1 6 (aXo aX oo)) (hm : Met l yX1_put wsX1_put rmM (va_Pc [.ref (aM 0), .int x0, .long x1, .long x2, .int x3] (rM G aM CM T K D w th)) (wr_Q G vwCl (some (.int bv)) (wM aM CM T2 K3 D3 w2 k) (aX5 aM)) 0 0 (aX5 aM)) (hres : k = 0 → f2 0 = bv.toInt64) (cont : ∀ (H : Heap) (locs : List Loc) (ls : Array Slot), va_P G vwCl (wXo aX CX K2 D2 W2 O2 n2 oo Co f2) H → va_P G vwCl (wM aM CM T2 K3 D3 w2 k) H → va_S (fun q => s.heap.size ≤ q) s.heap H locs → lv_has ls 8 [(4, .int (nI (7 * t))), (0, .ref b), (1, .ref (aX 0)), (2, .ref (aM 0)), (3, .ref oo)] → W p l e room_1 s m #[Value.ref b] below meth c H locs (cells + 1) (slots + 6) Q (F0 m 1185 ls [])) : ∀ (H : Heap) (locs : List Loc) (ls : Array Slot), va_P G vwCl (wXo aX CX K D Wt O n oo Co f) H → va_P G vwCl (wM aM CM T K D w th) H → va_S (fun q => s.heap.size ≤ q) s.heap H locs → lv_has ls 8 [(4, .int (nI (7 * t))), (0, .ref b), (1, .ref (aX 0)), (2, .ref (aM 0)), (3, .ref oo)] → W p l e room_1 s m #[Value.ref b] below meth c H locs cells slots Q (F0 m 116 ls []) := by
  subst hx0
  subst hx1
  subst hx2
  subst hx3
  obtain ⟨⟨S, hr, hlk, hX, hbl, hL⟩, ⟨hKX, hKM, hZ, hNc⟩, hapX, hapM, hdis, hAX, hAM⟩ := h
  obtain ⟨hx, hb, hml, hown, hts⟩ := id S
  have hbA : ¬ (fun q => s.heap.size ≤ q) b := fun z => Nat.not_lt.mpr z hbl
  intro H locs ls hP hPM hS hl
  have hl : lv_has ls 8 [(4, .int (nI (7 * t))), (0, .ref b), (1, .ref (aX 0)), (2, .ref (aM 0)), (3, .ref oo)] := hl
  refine lv_aload_n hx hb dL_law_116 rfl (lv_at hl 2 rfl) ?_
  refine lv_aload_n hx hb dL_law_117 rfl (lv_at hl 1 rfl) ?_
  refine lv_iload hx hb dL_law_118 (lv_at hl 0 rfl) ?_
  refine lv_iconst (v := 1) hx hb dL_law_120 (by decide) ?_
  refine lv_iadd hx hb dL_law_121 ?_
  refine q_topi (y := nI (7 * t + 1)) (nI_add (7 * t) 1) ?_
  refine q_sld hx hb hX hbl hbA hS (7 * t + 1) rfl (by omega) (by omega) dL_law_122 ?_
  refine lv_aload_n hx hb dL_law_123 rfl (lv_at hl 1 rfl) ?_
  refine lv_iload hx hb dL_law_124 (lv_at hl 0 rfl) ?_
  refine lv_iconst (v := 2) hx hb dL_law_126 (by decide) ?_
  refine lv_iadd hx hb dL_law_127 ?_
  refine q_topi (y := nI (7 * t + 2)) (nI_add (7 * t) 2) ?_
  refine q_sld hx hb hX hbl hbA hS (7 * t + 2) rfl (by omega) (by omega) dL_law_128 ?_
  refine lv_i2l hx hb dL_law_129 rfl ?_
  refine lv_bipush (v := 32) hx hb dL_law_130 (by decide) ?_
  refine lv_lshl hx hb dL_law_132 rfl ?_
  refine lv_aload_n hx hb dL_law_133 rfl (lv_at hl 1 rfl) ?_
  refine lv_iload hx hb dL_law_134 (lv_at hl 0 rfl) ?_
  refine lv_iconst (v := 3) hx hb dL_law_136 (by decide) ?_
  refine lv_iadd hx hb dL_law_137 ?_
  refine q_topi (y := nI (7 * t + 3)) (nI_add (7 * t) 3) ?_
  refine q_sld hx hb hX hbl hbA hS (7 * t + 3) rfl (by omega) (by omega) dL_law_138 ?_
  refine lv_i2l hx hb dL_law_139 rfl ?_
  refine lv_ldc2 (v := 4294967295) hx hb hown (hts _ (tb_lw _ w_k_L_62)) dL_law_140 ?_
  refine lv_land hx hb dL_law_143 ?_
  refine lv_lor hx hb dL_law_144 ?_
  refine q_topl (y := ft_lg (xs (7 * t + 2)) (xs (7 * t + 3))) rfl ?_
  refine lv_aload_n hx hb dL_law_145 rfl (lv_at hl 1 rfl) ?_
  refine lv_iload hx hb dL_law_146 (lv_at hl 0 rfl) ?_
  refine lv_iconst (v := 4) hx hb dL_law_148 (by decide) ?_
  refine lv_iadd hx hb dL_law_149 ?_
  refine q_topi (y := nI (7 * t + 4)) (nI_add (7 * t) 4) ?_
  refine q_sld hx hb hX hbl hbA hS (7 * t + 4) rfl (by omega) (by omega) dL_law_150 ?_
  refine lv_i2l hx hb dL_law_151 rfl ?_
  refine lv_bipush (v := 32) hx hb dL_law_152 (by decide) ?_
  refine lv_lshl hx hb dL_law_154 rfl ?_
  refine lv_aload_n hx hb dL_law_155 rfl (lv_at hl 1 rfl) ?_
  refine lv_iload hx hb dL_law_156 (lv_at hl 0 rfl) ?_
  refine lv_iconst (v := 5) hx hb dL_law_158 (by decide) ?_
  refine lv_iadd hx hb dL_law_159 ?_
  refine q_topi (y := nI (7 * t + 5)) (nI_add (7 * t) 5) ?_
  refine q_sld hx hb hX hbl hbA hS (7 * t + 5) rfl (by omega) (by omega) dL_law_160 ?_
  refine lv_i2l hx hb dL_law_161 rfl ?_
  refine lv_ldc2 (v := 4294967295) hx hb hown (hts _ (tb_lw _ w_k_L_62)) dL_law_162 ?_
  refine lv_land hx hb dL_law_165 ?_
  refine lv_lor hx hb dL_law_166 ?_
  refine q_topl (y := ft_lg (xs (7 * t + 4)) (xs (7 * t + 5))) rfl ?_
  refine lv_aload_n hx hb dL_law_167 rfl (lv_at hl 1 rfl) ?_
  refine lv_iload hx hb dL_law_168 (lv_at hl 0 rfl) ?_
  refine lv_bipush (v := 6) hx hb dL_law_170 (by decide) ?_
  refine lv_iadd hx hb dL_law_172 ?_
  refine q_topi (y := nI (7 * t + 6)) (nI_add (7 * t) 6) ?_
  refine q_sld hx hb hX hbl hbA hS (7 * t + 6) rfl (by omega) (by omega) dL_law_173 ?_
  refine lv_aload_n hx hb dL_law_174 rfl (lv_at hl 4 rfl) ?_
  refine sw_call (n := 6) (As := [.ref (aX 0), .int (xs (7 * t + 1)), .long (ft_lg (xs (7 * t + 2)) (xs (7 * t + 3))), .long (ft_lg (xs (7 * t + 4)) (xs (7 * t + 5))), .int (xs (7 * t + 6)), .ref oo]) (rest := []) (hh := [(0, 15, 18, 13)]) S hw rfl rfl ⟨Nat.le_of_ble_eq_true rfl, Nat.le_of_ble_eq_true rfl⟩ (gdC tb_lw w_co_L_put) (hts _ (tb_lw _ w_co_L_put)) (hts _ (tb_lw _ w_st_L_put)) (hts _ (tb_lw _ w_in_L)) (hts _ (tb_lw _ w_ml_L_64)) (by decide +kernel) (preXo hP hKX hZ hNc hS) rfl hl.1 rfl (lv_room (Nat.le_of_ble_eq_true rfl)) dL_law_175 ⟨by show cells + 1 ≤ 1047; omega, by show slots + 6 ≤ 9875; omega⟩ hS hAX (fun H locs hP hS _ hfr => ?_)
  have hPM := keepM hPM hfr (fun i hi z => hdis _ z ⟨i, hi, rfl⟩)
  refine W.eq (g2 := F0 m 178 ls [.int k]) rfl ?_
  refine lv_istore hx hb dL_law_178 hl (by decide) rfl (fun ls hl => ?_)
  have hl : lv_has ls 8 [(5, .int k), (4, .int (nI (7 * t))), (0, .ref b), (1, .ref (aX 0)), (2, .ref (aM 0)), (3, .ref oo)] := hl
  refine lv_aload_n hx hb dL_law_180 rfl (lv_at hl 4 rfl) ?_
  refine lv_aload_n hx hb dL_law_181 rfl (lv_at hl 2 rfl) ?_
  refine lv_iload hx hb dL_law_182 (lv_at hl 1 rfl) ?_
  refine lv_iconst (v := 1) hx hb dL_law_184 (by decide) ?_
  refine lv_iadd hx hb dL_law_185 ?_
  refine q_topi (y := nI (7 * t + 1)) (nI_add (7 * t) 1) ?_
  refine q_sld hx hb hX hbl hbA hS (7 * t + 1) rfl (by omega) (by omega) dL_law_186 ?_
  refine lv_aload_n hx hb dL_law_187 rfl (lv_at hl 2 rfl) ?_
  refine lv_iload hx hb dL_law_188 (lv_at hl 1 rfl) ?_
  refine lv_iconst (v := 2) hx hb dL_law_190 (by decide) ?_
  refine lv_iadd hx hb dL_law_191 ?_
  refine q_topi (y := nI (7 * t + 2)) (nI_add (7 * t) 2) ?_
  refine q_sld hx hb hX hbl hbA hS (7 * t + 2) rfl (by omega) (by omega) dL_law_192 ?_
  refine lv_i2l hx hb dL_law_193 rfl ?_
  refine lv_bipush (v := 32) hx hb dL_law_194 (by decide) ?_
  refine lv_lshl hx hb dL_law_196 rfl ?_
  refine lv_aload_n hx hb dL_law_197 rfl (lv_at hl 2 rfl) ?_
  refine lv_iload hx hb dL_law_198 (lv_at hl 1 rfl) ?_
  refine lv_iconst (v := 3) hx hb dL_law_200 (by decide) ?_
  refine lv_iadd hx hb dL_law_201 ?_
  refine q_topi (y := nI (7 * t + 3)) (nI_add (7 * t) 3) ?_
  refine q_sld hx hb hX hbl hbA hS (7 * t + 3) rfl (by omega) (by omega) dL_law_202 ?_
  refine lv_i2l hx hb dL_law_203 rfl ?_
  refine lv_ldc2 (v := 4294967295) hx hb hown (hts _ (tb_lw _ w_k_L_62)) dL_law_204 ?_
  refine lv_land hx hb dL_law_207 ?_
  refine lv_lor hx hb dL_law_208 ?_
  refine q_topl (y := ft_lg (xs (7 * t + 2)) (xs (7 * t + 3))) rfl ?_
  refine lv_aload_n hx hb dL_law_209 rfl (lv_at hl 2 rfl) ?_
  refine lv_iload hx hb dL_law_210 (lv_at hl 1 rfl) ?_
  refine lv_iconst (v := 4) hx hb dL_law_212 (by decide) ?_
  refine lv_iadd hx hb dL_law_213 ?_
  refine q_topi (y := nI (7 * t + 4)) (nI_add (7 * t) 4) ?_
  refine q_sld hx hb hX hbl hbA hS (7 * t + 4) rfl (by omega) (by omega) dL_law_214 ?_
  refine lv_i2l hx hb dL_law_215 rfl ?_
  refine lv_bipush (v := 32) hx hb dL_law_216 (by decide) ?_
  refine lv_lshl hx hb dL_law_218 rfl ?_
  refine lv_aload_n hx hb dL_law_219 rfl (lv_at hl 2 rfl) ?_
  refine lv_iload hx hb dL_law_220 (lv_at hl 1 rfl) ?_
  refine lv_iconst (v := 5) hx hb dL_law_222 (by decide) ?_
  refine lv_iadd hx hb dL_law_223 ?_
  refine q_topi (y := nI (7 * t + 5)) (nI_add (7 * t) 5) ?_
  refine q_sld hx hb hX hbl hbA hS (7 * t + 5) rfl (by omega) (by omega) dL_law_224 ?_
  refine lv_i2l hx hb dL_law_225 rfl ?_
  refine lv_ldc2 (v := 4294967295) hx hb hown (hts _ (tb_lw _ w_k_L_62)) dL_law_226 ?_
  refine lv_land hx hb dL_law_229 ?_
  refine lv_lor hx hb dL_law_230 ?_
  refine q_topl (y := ft_lg (xs (7 * t + 4)) (xs (7 * t + 5))) rfl ?_
  refine lv_aload_n hx hb dL_law_231 rfl (lv_at hl 2 rfl) ?_
  refine lv_iload hx hb dL_law_232 (lv_at hl 1 rfl) ?_
  refine lv_bipush (v := 6) hx hb dL_law_234 (by decide) ?_
  refine lv_iadd hx hb dL_law_236 ?_
  refine q_topi (y := nI (7 * t + 6)) (nI_add (7 * t) 6) ?_
  refine q_sld hx hb hX hbl hbA hS (7 * t + 6) rfl (by omega) (by omega) dL_law_237 ?_
  refine wr_call (W.runV (As := [.int (xs (7 * t + 1)), .long (ft_lg (xs (7 * t + 2)) (xs (7 * t + 3))), .long (ft_lg (xs (7 * t + 4)) (xs (7 * t + 5))), .int (xs (7 * t + 6))]) (rest := []) S hm (cwV 4 hts (gL_69 tb_lw) rfl hrm.1 hrm.2.1 (by decide +kernel) ⟨by have := hrm.2.2.1; show rmM.frames + 1 ≤ 11; omega, by have := hrm.2.2.2; show 8 + (7 + 11) + rmM.locals ≤ 394; omega⟩) (pM_V hPM hKM) rfl rfl hl.1 rfl (lv_room (Nat.le_of_ble_eq_true rfl)) dL_law_238 ⟨by show cells + 1 + 0 ≤ 1047; omega, by show slots + 6 + 0 ≤ 9875; omega⟩) hS hAM (fun H locs hPM hS _ hfr => ?_)
  have hP := keepX6 hP hfr hdis
  refine W.eq (g2 := F0 m 241 ls [.int bv]) rfl ?_
  refine lv_istore hx hb dL_law_241 hl (by decide) rfl (fun ls hl => ?_)
  have hl : lv_has ls 8 [(6, .int bv), (5, .int k), (4, .int (nI (7 * t))), (0, .ref b), (1, .ref (aX 0)), (2, .ref (aM 0)), (3, .ref oo)] := hl
  refine lv_aload_n hx hb dL_law_243 rfl (lv_at hl 5 rfl) ?_
  refine rd_call (W.runV (As := []) (rest := []) S (cm_thrown l G aM CM T2 K3 D3 w2 k) (cwV 0 hts (gL_70 tb_lw) rfl rfl rfl (by decide +kernel) ⟨Nat.le_of_ble_eq_true rfl, Nat.le_of_ble_eq_true rfl⟩) (pM_V hPM hKM) rfl rfl hl.1 rfl (lv_room (Nat.le_of_ble_eq_true rfl)) dL_law_244 ⟨by show cells + 1 + 0 ≤ 1047; omega, by show slots + 6 + 0 ≤ 9875; omega⟩) ?_
  refine lv_iload hx hb dL_law_247 (lv_at hl 1 rfl) ?_
  refine lv_icmp_eq (tgt := 254) hx hb dL_law_249 (by decide) (fun _ => ?_) (fun hc => absurd (rfl) hc)
  refine lv_iload hx hb dL_law_254 (lv_at hl 1 rfl) ?_
  by_cases hk : k = 0
  · refine lv_if_ne (tgt := 271) hx hb dL_law_256 (by decide) (fun hc => absurd (hk) hc) (fun _ => ?_)
    refine lv_aload_n hx hb dL_law_259 rfl (lv_at hl 6 rfl) ?_
    refine lv_iconst (v := 0) hx hb dL_law_260 (by decide) ?_
    refine q_lald hx hb hKX hP 5 4 rfl rfl 0 rfl (by decide) (by decide) dL_law_261 ?_
    refine lv_iload hx hb dL_law_262 (lv_at hl 0 rfl) ?_
    refine lv_i2l hx hb dL_law_264 rfl ?_
    refine W.lcmp hx hb dL_law_265 ?_
    refine lv_if_eq (tgt := 271) hx hb dL_law_266 (by decide) (fun _ => ?_) (fun hc => absurd ((lg_cmp_eq _ _).mpr (hres hk)) hc)
    refine lv_goto (tgt := 1185) hx hb dL_law_271 (by decide) ?_
    exact cont H locs ls hP hPM hS (lv_sub hl [2, 3, 4, 5, 6] rfl)
  · refine lv_if_ne (tgt := 271) hx hb dL_law_256 (by decide) (fun _ => ?_) (fun hc => absurd hc (hk))
    refine lv_goto (tgt := 1185) hx hb dL_law_271 (by decide) ?_
    exact cont H locs ls hP hPM hS (lv_sub hl [2, 3, 4, 5, 6] rfl)
set_option maxHeartbeats 4000000 in
set_option maxRecDepth 100000 in
theorem op_drop {p : Program} {l : Launch} {e : Env} {s : State} {m : MethodId} {below : List Frame} {meth : Method} {c : Code} {b L : Nat} {xs : Nat → Int32} {G : va_G} {aX : Nat → Nat} {CX : Nat → ClassId} {aM : Nat → Nat} {CM : Nat → ClassId} {oo : Nat} {Co : ClassId} (h : LC p s m meth c b L xs G aX CX aM CM oo Co) {Q : State → Prop} {cells slots : Nat} (hcs : cells + 1 ≤ 1047) (hss : slots + 6 ≤ 9875) {t : Nat} (ht : 7 * t + 7 ≤ L) {K D K2 D2 K3 D3 : Nat → Int64} {Wt O W2 O2 : Nat → Int32} {n n2 : Int32} {f f2 : Nat → Int64} {T T2 : Nat → Bool} {w w2 : Nat → Int32} {th k : Int32} {rmM : Room} (hrm : rmM.cells = 0 ∧ rmM.slots = 0 ∧ rmM.frames ≤ 2 ∧ rmM.locals ≤ 60) {x0 : Int32} (hx0 : xs (7 * t + 1) = x0) {bv : Int32} (hw : Met l yL_drop wsL_drop { frames := 8, cells := 1, slots := 6, locals := 150 } (va_Pc [.ref (aX 0), .int x0, .ref oo] (bXo G aX CX K D Wt O n oo Co f)) (wr_Q G vwCl (some (.int k)) (wXo aX CX K2 D2 W2 O2 n2 oo Co f2) (aXo aX oo)) 1 6 (aXo aX oo)) (hm : Met l yX1_drop wsX1_drop rmM (va_Pc [.ref (aM 0), .int x0] (rM G aM CM T K D w th)) (wr_Q G vwCl (some (.int bv)) (wM aM CM T2 K3 D3 w2 k) (aX5 aM)) 0 0 (aX5 aM)) (hres : k = 0 → f2 0 = bv.toInt64) (cont : ∀ (H : Heap) (locs : List Loc) (ls : Array Slot), va_P G vwCl (wXo aX CX K2 D2 W2 O2 n2 oo Co f2) H → va_P G vwCl (wM aM CM T2 K3 D3 w2 k) H → va_S (fun q => s.heap.size ≤ q) s.heap H locs → lv_has ls 8 [(4, .int (nI (7 * t))), (0, .ref b), (1, .ref (aX 0)), (2, .ref (aM 0)), (3, .ref oo)] → W p l e room_1 s m #[Value.ref b] below meth c H locs (cells + 1) (slots + 6) Q (F0 m 1185 ls [])) : ∀ (H : Heap) (locs : List Loc) (ls : Array Slot), va_P G vwCl (wXo aX CX K D Wt O n oo Co f) H → va_P G vwCl (wM aM CM T K D w th) H → va_S (fun q => s.heap.size ≤ q) s.heap H locs → lv_has ls 8 [(4, .int (nI (7 * t))), (0, .ref b), (1, .ref (aX 0)), (2, .ref (aM 0)), (3, .ref oo)] → W p l e room_1 s m #[Value.ref b] below meth c H locs cells slots Q (F0 m 274 ls []) := by
  subst hx0
  obtain ⟨⟨S, hr, hlk, hX, hbl, hL⟩, ⟨hKX, hKM, hZ, hNc⟩, hapX, hapM, hdis, hAX, hAM⟩ := h
  obtain ⟨hx, hb, hml, hown, hts⟩ := id S
  have hbA : ¬ (fun q => s.heap.size ≤ q) b := fun z => Nat.not_lt.mpr z hbl
  intro H locs ls hP hPM hS hl
  have hl : lv_has ls 8 [(4, .int (nI (7 * t))), (0, .ref b), (1, .ref (aX 0)), (2, .ref (aM 0)), (3, .ref oo)] := hl
  refine lv_aload_n hx hb dL_law_274 rfl (lv_at hl 2 rfl) ?_
  refine lv_aload_n hx hb dL_law_275 rfl (lv_at hl 1 rfl) ?_
  refine lv_iload hx hb dL_law_276 (lv_at hl 0 rfl) ?_
  refine lv_iconst (v := 1) hx hb dL_law_278 (by decide) ?_
  refine lv_iadd hx hb dL_law_279 ?_
  refine q_topi (y := nI (7 * t + 1)) (nI_add (7 * t) 1) ?_
  refine q_sld hx hb hX hbl hbA hS (7 * t + 1) rfl (by omega) (by omega) dL_law_280 ?_
  refine lv_aload_n hx hb dL_law_281 rfl (lv_at hl 4 rfl) ?_
  refine sw_call (n := 3) (As := [.ref (aX 0), .int (xs (7 * t + 1)), .ref oo]) (rest := []) (hh := [(0, 9, 12, 19)]) S hw rfl rfl ⟨Nat.le_of_ble_eq_true rfl, Nat.le_of_ble_eq_true rfl⟩ (gdC tb_lw w_co_L_drop) (hts _ (tb_lw _ w_co_L_drop)) (hts _ (tb_lw _ w_st_L_drop)) (hts _ (tb_lw _ w_in_L)) (hts _ (tb_lw _ w_ml_L_73)) (by decide +kernel) (preXo hP hKX hZ hNc hS) rfl hl.1 rfl (lv_room (Nat.le_of_ble_eq_true rfl)) dL_law_282 ⟨by show cells + 1 ≤ 1047; omega, by show slots + 6 ≤ 9875; omega⟩ hS hAX (fun H locs hP hS _ hfr => ?_)
  have hPM := keepM hPM hfr (fun i hi z => hdis _ z ⟨i, hi, rfl⟩)
  refine W.eq (g2 := F0 m 285 ls [.int k]) rfl ?_
  refine lv_istore hx hb dL_law_285 hl (by decide) rfl (fun ls hl => ?_)
  have hl : lv_has ls 8 [(5, .int k), (4, .int (nI (7 * t))), (0, .ref b), (1, .ref (aX 0)), (2, .ref (aM 0)), (3, .ref oo)] := hl
  refine lv_aload_n hx hb dL_law_287 rfl (lv_at hl 4 rfl) ?_
  refine lv_aload_n hx hb dL_law_288 rfl (lv_at hl 2 rfl) ?_
  refine lv_iload hx hb dL_law_289 (lv_at hl 1 rfl) ?_
  refine lv_iconst (v := 1) hx hb dL_law_291 (by decide) ?_
  refine lv_iadd hx hb dL_law_292 ?_
  refine q_topi (y := nI (7 * t + 1)) (nI_add (7 * t) 1) ?_
  refine q_sld hx hb hX hbl hbA hS (7 * t + 1) rfl (by omega) (by omega) dL_law_293 ?_
  refine wr_call (W.runV (As := [.int (xs (7 * t + 1))]) (rest := []) S hm (cwV 1 hts (gL_76 tb_lw) rfl hrm.1 hrm.2.1 (by decide +kernel) ⟨by have := hrm.2.2.1; show rmM.frames + 1 ≤ 11; omega, by have := hrm.2.2.2; show 8 + (2 + 11) + rmM.locals ≤ 394; omega⟩) (pM_V hPM hKM) rfl rfl hl.1 rfl (lv_room (Nat.le_of_ble_eq_true rfl)) dL_law_294 ⟨by show cells + 1 + 0 ≤ 1047; omega, by show slots + 6 + 0 ≤ 9875; omega⟩) hS hAM (fun H locs hPM hS _ hfr => ?_)
  have hP := keepX6 hP hfr hdis
  refine W.eq (g2 := F0 m 297 ls [.int bv]) rfl ?_
  refine lv_istore hx hb dL_law_297 hl (by decide) rfl (fun ls hl => ?_)
  have hl : lv_has ls 8 [(6, .int bv), (5, .int k), (4, .int (nI (7 * t))), (0, .ref b), (1, .ref (aX 0)), (2, .ref (aM 0)), (3, .ref oo)] := hl
  refine lv_aload_n hx hb dL_law_299 rfl (lv_at hl 5 rfl) ?_
  refine rd_call (W.runV (As := []) (rest := []) S (cm_thrown l G aM CM T2 K3 D3 w2 k) (cwV 0 hts (gL_70 tb_lw) rfl rfl rfl (by decide +kernel) ⟨Nat.le_of_ble_eq_true rfl, Nat.le_of_ble_eq_true rfl⟩) (pM_V hPM hKM) rfl rfl hl.1 rfl (lv_room (Nat.le_of_ble_eq_true rfl)) dL_law_300 ⟨by show cells + 1 + 0 ≤ 1047; omega, by show slots + 6 + 0 ≤ 9875; omega⟩) ?_
  refine lv_iload hx hb dL_law_303 (lv_at hl 1 rfl) ?_
  refine lv_icmp_eq (tgt := 310) hx hb dL_law_305 (by decide) (fun _ => ?_) (fun hc => absurd (rfl) hc)
  refine lv_iload hx hb dL_law_310 (lv_at hl 1 rfl) ?_
  by_cases hk : k = 0
  · refine lv_if_ne (tgt := 327) hx hb dL_law_312 (by decide) (fun hc => absurd (hk) hc) (fun _ => ?_)
    refine lv_aload_n hx hb dL_law_315 rfl (lv_at hl 6 rfl) ?_
    refine lv_iconst (v := 0) hx hb dL_law_316 (by decide) ?_
    refine q_lald hx hb hKX hP 5 4 rfl rfl 0 rfl (by decide) (by decide) dL_law_317 ?_
    refine lv_iload hx hb dL_law_318 (lv_at hl 0 rfl) ?_
    refine lv_i2l hx hb dL_law_320 rfl ?_
    refine W.lcmp hx hb dL_law_321 ?_
    refine lv_if_eq (tgt := 327) hx hb dL_law_322 (by decide) (fun _ => ?_) (fun hc => absurd ((lg_cmp_eq _ _).mpr (hres hk)) hc)
    refine lv_goto (tgt := 1185) hx hb dL_law_327 (by decide) ?_
    exact cont H locs ls hP hPM hS (lv_sub hl [2, 3, 4, 5, 6] rfl)
  · refine lv_if_ne (tgt := 327) hx hb dL_law_312 (by decide) (fun _ => ?_) (fun hc => absurd hc (hk))
    refine lv_goto (tgt := 1185) hx hb dL_law_327 (by decide) ?_
    exact cont H locs ls hP hPM hS (lv_sub hl [2, 3, 4, 5, 6] rfl)
set_option maxHeartbeats 4000000 in
set_option maxRecDepth 100000 in
theorem op_slide {p : Program} {l : Launch} {e : Env} {s : State} {m : MethodId} {below : List Frame} {meth : Method} {c : Code} {b L : Nat} {xs : Nat → Int32} {G : va_G} {aX : Nat → Nat} {CX : Nat → ClassId} {aM : Nat → Nat} {CM : Nat → ClassId} {oo : Nat} {Co : ClassId} (h : LC p s m meth c b L xs G aX CX aM CM oo Co) {Q : State → Prop} {cells slots : Nat} (hcs : cells + 1 ≤ 1047) (hss : slots + 6 ≤ 9875) {t : Nat} (ht : 7 * t + 7 ≤ L) {K D K2 D2 K3 D3 : Nat → Int64} {Wt O W2 O2 : Nat → Int32} {n n2 : Int32} {f f2 : Nat → Int64} {T T2 : Nat → Bool} {w w2 : Nat → Int32} {th k : Int32} {rmM : Room} (hrm : rmM.cells = 0 ∧ rmM.slots = 0 ∧ rmM.frames ≤ 2 ∧ rmM.locals ≤ 60) {x0 : Int64} (hx0 : ft_lg (xs (7 * t + 1)) (xs (7 * t + 2)) = x0) {bv : Int64} (hw : Met l yL_slide wsL_slide { frames := 8, cells := 1, slots := 6, locals := 150 } (va_Pc [.ref (aX 0), .long x0, .ref oo] (bXo G aX CX K D Wt O n oo Co f)) (wr_Q G vwCl (some (.int k)) (wXo aX CX K2 D2 W2 O2 n2 oo Co f2) (aXo aX oo)) 1 6 (aXo aX oo)) (hm : Met l yX1_slide wsX1_slide rmM (va_Pc [.ref (aM 0), .long x0] (rM G aM CM T K D w th)) (wr_Q G vwCl (some (.long bv)) (wM aM CM T2 K3 D3 w2 k) (aX5 aM)) 0 0 (aX5 aM)) (hres : k = 0 → f2 0 = bv) (cont : ∀ (H : Heap) (locs : List Loc) (ls : Array Slot), va_P G vwCl (wXo aX CX K2 D2 W2 O2 n2 oo Co f2) H → va_P G vwCl (wM aM CM T2 K3 D3 w2 k) H → va_S (fun q => s.heap.size ≤ q) s.heap H locs → lv_has ls 8 [(4, .int (nI (7 * t))), (0, .ref b), (1, .ref (aX 0)), (2, .ref (aM 0)), (3, .ref oo)] → W p l e room_1 s m #[Value.ref b] below meth c H locs (cells + 1) (slots + 6) Q (F0 m 1185 ls [])) : ∀ (H : Heap) (locs : List Loc) (ls : Array Slot), va_P G vwCl (wXo aX CX K D Wt O n oo Co f) H → va_P G vwCl (wM aM CM T K D w th) H → va_S (fun q => s.heap.size ≤ q) s.heap H locs → lv_has ls 8 [(4, .int (nI (7 * t))), (0, .ref b), (1, .ref (aX 0)), (2, .ref (aM 0)), (3, .ref oo)] → W p l e room_1 s m #[Value.ref b] below meth c H locs cells slots Q (F0 m 330 ls []) := by
  subst hx0
  obtain ⟨⟨S, hr, hlk, hX, hbl, hL⟩, ⟨hKX, hKM, hZ, hNc⟩, hapX, hapM, hdis, hAX, hAM⟩ := h
  obtain ⟨hx, hb, hml, hown, hts⟩ := id S
  have hbA : ¬ (fun q => s.heap.size ≤ q) b := fun z => Nat.not_lt.mpr z hbl
  intro H locs ls hP hPM hS hl
  have hl : lv_has ls 8 [(4, .int (nI (7 * t))), (0, .ref b), (1, .ref (aX 0)), (2, .ref (aM 0)), (3, .ref oo)] := hl
  refine lv_aload_n hx hb dL_law_330 rfl (lv_at hl 2 rfl) ?_
  refine lv_aload_n hx hb dL_law_331 rfl (lv_at hl 1 rfl) ?_
  refine lv_iload hx hb dL_law_332 (lv_at hl 0 rfl) ?_
  refine lv_iconst (v := 1) hx hb dL_law_334 (by decide) ?_
  refine lv_iadd hx hb dL_law_335 ?_
  refine q_topi (y := nI (7 * t + 1)) (nI_add (7 * t) 1) ?_
  refine q_sld hx hb hX hbl hbA hS (7 * t + 1) rfl (by omega) (by omega) dL_law_336 ?_
  refine lv_i2l hx hb dL_law_337 rfl ?_
  refine lv_bipush (v := 32) hx hb dL_law_338 (by decide) ?_
  refine lv_lshl hx hb dL_law_340 rfl ?_
  refine lv_aload_n hx hb dL_law_341 rfl (lv_at hl 1 rfl) ?_
  refine lv_iload hx hb dL_law_342 (lv_at hl 0 rfl) ?_
  refine lv_iconst (v := 2) hx hb dL_law_344 (by decide) ?_
  refine lv_iadd hx hb dL_law_345 ?_
  refine q_topi (y := nI (7 * t + 2)) (nI_add (7 * t) 2) ?_
  refine q_sld hx hb hX hbl hbA hS (7 * t + 2) rfl (by omega) (by omega) dL_law_346 ?_
  refine lv_i2l hx hb dL_law_347 rfl ?_
  refine lv_ldc2 (v := 4294967295) hx hb hown (hts _ (tb_lw _ w_k_L_62)) dL_law_348 ?_
  refine lv_land hx hb dL_law_351 ?_
  refine lv_lor hx hb dL_law_352 ?_
  refine q_topl (y := ft_lg (xs (7 * t + 1)) (xs (7 * t + 2))) rfl ?_
  refine lv_aload_n hx hb dL_law_353 rfl (lv_at hl 4 rfl) ?_
  refine sw_call (n := 3) (As := [.ref (aX 0), .long (ft_lg (xs (7 * t + 1)) (xs (7 * t + 2))), .ref oo]) (rest := []) (hh := [(0, 8, 11, 19), (0, 8, 15, 13)]) S hw rfl rfl ⟨Nat.le_of_ble_eq_true rfl, Nat.le_of_ble_eq_true rfl⟩ (gdC tb_lw w_co_L_slide) (hts _ (tb_lw _ w_co_L_slide)) (hts _ (tb_lw _ w_st_L_slide)) (hts _ (tb_lw _ w_in_L)) (hts _ (tb_lw _ w_ml_L_77)) (by decide +kernel) (preXo hP hKX hZ hNc hS) rfl hl.1 rfl (lv_room (Nat.le_of_ble_eq_true rfl)) dL_law_354 ⟨by show cells + 1 ≤ 1047; omega, by show slots + 6 ≤ 9875; omega⟩ hS hAX (fun H locs hP hS _ hfr => ?_)
  have hPM := keepM hPM hfr (fun i hi z => hdis _ z ⟨i, hi, rfl⟩)
  refine W.eq (g2 := F0 m 357 ls [.int k]) rfl ?_
  refine lv_istore hx hb dL_law_357 hl (by decide) rfl (fun ls hl => ?_)
  have hl : lv_has ls 8 [(5, .int k), (4, .int (nI (7 * t))), (0, .ref b), (1, .ref (aX 0)), (2, .ref (aM 0)), (3, .ref oo)] := hl
  refine lv_aload_n hx hb dL_law_359 rfl (lv_at hl 4 rfl) ?_
  refine lv_aload_n hx hb dL_law_360 rfl (lv_at hl 2 rfl) ?_
  refine lv_iload hx hb dL_law_361 (lv_at hl 1 rfl) ?_
  refine lv_iconst (v := 1) hx hb dL_law_363 (by decide) ?_
  refine lv_iadd hx hb dL_law_364 ?_
  refine q_topi (y := nI (7 * t + 1)) (nI_add (7 * t) 1) ?_
  refine q_sld hx hb hX hbl hbA hS (7 * t + 1) rfl (by omega) (by omega) dL_law_365 ?_
  refine lv_i2l hx hb dL_law_366 rfl ?_
  refine lv_bipush (v := 32) hx hb dL_law_367 (by decide) ?_
  refine lv_lshl hx hb dL_law_369 rfl ?_
  refine lv_aload_n hx hb dL_law_370 rfl (lv_at hl 2 rfl) ?_
  refine lv_iload hx hb dL_law_371 (lv_at hl 1 rfl) ?_
  refine lv_iconst (v := 2) hx hb dL_law_373 (by decide) ?_
  refine lv_iadd hx hb dL_law_374 ?_
  refine q_topi (y := nI (7 * t + 2)) (nI_add (7 * t) 2) ?_
  refine q_sld hx hb hX hbl hbA hS (7 * t + 2) rfl (by omega) (by omega) dL_law_375 ?_
  refine lv_i2l hx hb dL_law_376 rfl ?_
  refine lv_ldc2 (v := 4294967295) hx hb hown (hts _ (tb_lw _ w_k_L_62)) dL_law_377 ?_
  refine lv_land hx hb dL_law_380 ?_
  refine lv_lor hx hb dL_law_381 ?_
  refine q_topl (y := ft_lg (xs (7 * t + 1)) (xs (7 * t + 2))) rfl ?_
  refine wr_call (W.runV (As := [.long (ft_lg (xs (7 * t + 1)) (xs (7 * t + 2)))]) (rest := []) S hm (cwV 1 hts (gL_80 tb_lw) rfl hrm.1 hrm.2.1 (by decide +kernel) ⟨by have := hrm.2.2.1; show rmM.frames + 1 ≤ 11; omega, by have := hrm.2.2.2; show 8 + (6 + 11) + rmM.locals ≤ 394; omega⟩) (pM_V hPM hKM) rfl rfl hl.1 rfl (lv_room (Nat.le_of_ble_eq_true rfl)) dL_law_382 ⟨by show cells + 1 + 0 ≤ 1047; omega, by show slots + 6 + 0 ≤ 9875; omega⟩) hS hAM (fun H locs hPM hS _ hfr => ?_)
  have hP := keepX6 hP hfr hdis
  refine W.eq (g2 := F0 m 385 ls [.long bv]) rfl ?_
  refine lv_lstore hx hb dL_law_385 hl (by decide) rfl (fun ls hl => ?_)
  have hl : lv_has ls 8 [(6, .long bv), (5, .int k), (4, .int (nI (7 * t))), (0, .ref b), (1, .ref (aX 0)), (2, .ref (aM 0)), (3, .ref oo)] := hl
  refine lv_aload_n hx hb dL_law_387 rfl (lv_at hl 5 rfl) ?_
  refine rd_call (W.runV (As := []) (rest := []) S (cm_thrown l G aM CM T2 K3 D3 w2 k) (cwV 0 hts (gL_70 tb_lw) rfl rfl rfl (by decide +kernel) ⟨Nat.le_of_ble_eq_true rfl, Nat.le_of_ble_eq_true rfl⟩) (pM_V hPM hKM) rfl rfl hl.1 rfl (lv_room (Nat.le_of_ble_eq_true rfl)) dL_law_388 ⟨by show cells + 1 + 0 ≤ 1047; omega, by show slots + 6 + 0 ≤ 9875; omega⟩) ?_
  refine lv_iload hx hb dL_law_391 (lv_at hl 1 rfl) ?_
  refine lv_icmp_eq (tgt := 398) hx hb dL_law_393 (by decide) (fun _ => ?_) (fun hc => absurd (rfl) hc)
  refine lv_iload hx hb dL_law_398 (lv_at hl 1 rfl) ?_
  by_cases hk : k = 0
  · refine lv_if_ne (tgt := 414) hx hb dL_law_400 (by decide) (fun hc => absurd (hk) hc) (fun _ => ?_)
    refine lv_aload_n hx hb dL_law_403 rfl (lv_at hl 6 rfl) ?_
    refine lv_iconst (v := 0) hx hb dL_law_404 (by decide) ?_
    refine q_lald hx hb hKX hP 5 4 rfl rfl 0 rfl (by decide) (by decide) dL_law_405 ?_
    refine lv_lload hx hb dL_law_406 (lv_at hl 0 rfl) ?_
    refine W.lcmp hx hb dL_law_408 ?_
    refine lv_if_eq (tgt := 414) hx hb dL_law_409 (by decide) (fun _ => ?_) (fun hc => absurd ((lg_cmp_eq _ _).mpr (hres hk)) hc)
    refine lv_goto (tgt := 1185) hx hb dL_law_414 (by decide) ?_
    exact cont H locs ls hP hPM hS (lv_sub hl [2, 3, 4, 5, 6] rfl)
  · refine lv_if_ne (tgt := 414) hx hb dL_law_400 (by decide) (fun _ => ?_) (fun hc => absurd hc (hk))
    refine lv_goto (tgt := 1185) hx hb dL_law_414 (by decide) ?_
    exact cont H locs ls hP hPM hS (lv_sub hl [2, 3, 4, 5, 6] rfl)
set_option maxHeartbeats 4000000 in
set_option maxRecDepth 100000 in
theorem op_told {p : Program} {l : Launch} {e : Env} {s : State} {m : MethodId} {below : List Frame} {meth : Method} {c : Code} {b L : Nat} {xs : Nat → Int32} {G : va_G} {aX : Nat → Nat} {CX : Nat → ClassId} {aM : Nat → Nat} {CM : Nat → ClassId} {oo : Nat} {Co : ClassId} (h : LC p s m meth c b L xs G aX CX aM CM oo Co) {Q : State → Prop} {cells slots : Nat} (hcs : cells + 1 ≤ 1047) (hss : slots + 6 ≤ 9875) {t : Nat} (ht : 7 * t + 7 ≤ L) {K D K2 D2 K3 D3 : Nat → Int64} {Wt O W2 O2 : Nat → Int32} {n n2 : Int32} {f f2 : Nat → Int64} {T T2 : Nat → Bool} {w w2 : Nat → Int32} {th k : Int32} {rmM : Room} (hrm : rmM.cells = 0 ∧ rmM.slots = 0 ∧ rmM.frames ≤ 2 ∧ rmM.locals ≤ 60) {x0 : Int32} (hx0 : xs (7 * t + 1) = x0) {x1 : Int32} (hx1 : xs (7 * t + 2) = x1) {bv : Int64} (hw : Met l yL_told wsL_told { frames := 8, cells := 1, slots := 6, locals := 150 } (va_Pc [.ref (aX 0), .int x0, .int x1, .ref oo] (bXo G aX CX K D Wt O n oo Co f)) (wr_Q G vwCl (some (.int k)) (wXo aX CX K2 D2 W2 O2 n2 oo Co f2) (aXo aX oo)) 1 6 (aXo aX oo)) (hm : Met l yX1_told wsX1_told rmM (va_Pc [.ref (aM 0), .int x0, .int x1] (rM G aM CM T K D w th)) (wr_Q G vwCl (some (.long bv)) (wM aM CM T2 K3 D3 w2 k) (aX5 aM)) 0 0 (aX5 aM)) (hres : k = 0 → f2 0 = bv) (cont : ∀ (H : Heap) (locs : List Loc) (ls : Array Slot), va_P G vwCl (wXo aX CX K2 D2 W2 O2 n2 oo Co f2) H → va_P G vwCl (wM aM CM T2 K3 D3 w2 k) H → va_S (fun q => s.heap.size ≤ q) s.heap H locs → lv_has ls 8 [(4, .int (nI (7 * t))), (0, .ref b), (1, .ref (aX 0)), (2, .ref (aM 0)), (3, .ref oo)] → W p l e room_1 s m #[Value.ref b] below meth c H locs (cells + 1) (slots + 6) Q (F0 m 1185 ls [])) : ∀ (H : Heap) (locs : List Loc) (ls : Array Slot), va_P G vwCl (wXo aX CX K D Wt O n oo Co f) H → va_P G vwCl (wM aM CM T K D w th) H → va_S (fun q => s.heap.size ≤ q) s.heap H locs → lv_has ls 8 [(4, .int (nI (7 * t))), (0, .ref b), (1, .ref (aX 0)), (2, .ref (aM 0)), (3, .ref oo)] → W p l e room_1 s m #[Value.ref b] below meth c H locs cells slots Q (F0 m 417 ls []) := by
  subst hx0
  subst hx1
  obtain ⟨⟨S, hr, hlk, hX, hbl, hL⟩, ⟨hKX, hKM, hZ, hNc⟩, hapX, hapM, hdis, hAX, hAM⟩ := h
  obtain ⟨hx, hb, hml, hown, hts⟩ := id S
  have hbA : ¬ (fun q => s.heap.size ≤ q) b := fun z => Nat.not_lt.mpr z hbl
  intro H locs ls hP hPM hS hl
  have hl : lv_has ls 8 [(4, .int (nI (7 * t))), (0, .ref b), (1, .ref (aX 0)), (2, .ref (aM 0)), (3, .ref oo)] := hl
  refine lv_aload_n hx hb dL_law_417 rfl (lv_at hl 2 rfl) ?_
  refine lv_aload_n hx hb dL_law_418 rfl (lv_at hl 1 rfl) ?_
  refine lv_iload hx hb dL_law_419 (lv_at hl 0 rfl) ?_
  refine lv_iconst (v := 1) hx hb dL_law_421 (by decide) ?_
  refine lv_iadd hx hb dL_law_422 ?_
  refine q_topi (y := nI (7 * t + 1)) (nI_add (7 * t) 1) ?_
  refine q_sld hx hb hX hbl hbA hS (7 * t + 1) rfl (by omega) (by omega) dL_law_423 ?_
  refine lv_aload_n hx hb dL_law_424 rfl (lv_at hl 1 rfl) ?_
  refine lv_iload hx hb dL_law_425 (lv_at hl 0 rfl) ?_
  refine lv_iconst (v := 2) hx hb dL_law_427 (by decide) ?_
  refine lv_iadd hx hb dL_law_428 ?_
  refine q_topi (y := nI (7 * t + 2)) (nI_add (7 * t) 2) ?_
  refine q_sld hx hb hX hbl hbA hS (7 * t + 2) rfl (by omega) (by omega) dL_law_429 ?_
  refine lv_aload_n hx hb dL_law_430 rfl (lv_at hl 4 rfl) ?_
  refine sw_call (n := 4) (As := [.ref (aX 0), .int (xs (7 * t + 1)), .int (xs (7 * t + 2)), .ref oo]) (rest := []) (hh := [(0, 9, 12, 19), (0, 9, 16, 13)]) S hw rfl rfl ⟨Nat.le_of_ble_eq_true rfl, Nat.le_of_ble_eq_true rfl⟩ (gdC tb_lw w_co_L_told) (hts _ (tb_lw _ w_co_L_told)) (hts _ (tb_lw _ w_st_L_told)) (hts _ (tb_lw _ w_in_L)) (hts _ (tb_lw _ w_ml_L_81)) (by decide +kernel) (preXo hP hKX hZ hNc hS) rfl hl.1 rfl (lv_room (Nat.le_of_ble_eq_true rfl)) dL_law_431 ⟨by show cells + 1 ≤ 1047; omega, by show slots + 6 ≤ 9875; omega⟩ hS hAX (fun H locs hP hS _ hfr => ?_)
  have hPM := keepM hPM hfr (fun i hi z => hdis _ z ⟨i, hi, rfl⟩)
  refine W.eq (g2 := F0 m 434 ls [.int k]) rfl ?_
  refine lv_istore hx hb dL_law_434 hl (by decide) rfl (fun ls hl => ?_)
  have hl : lv_has ls 8 [(5, .int k), (4, .int (nI (7 * t))), (0, .ref b), (1, .ref (aX 0)), (2, .ref (aM 0)), (3, .ref oo)] := hl
  refine lv_aload_n hx hb dL_law_436 rfl (lv_at hl 4 rfl) ?_
  refine lv_aload_n hx hb dL_law_437 rfl (lv_at hl 2 rfl) ?_
  refine lv_iload hx hb dL_law_438 (lv_at hl 1 rfl) ?_
  refine lv_iconst (v := 1) hx hb dL_law_440 (by decide) ?_
  refine lv_iadd hx hb dL_law_441 ?_
  refine q_topi (y := nI (7 * t + 1)) (nI_add (7 * t) 1) ?_
  refine q_sld hx hb hX hbl hbA hS (7 * t + 1) rfl (by omega) (by omega) dL_law_442 ?_
  refine lv_aload_n hx hb dL_law_443 rfl (lv_at hl 2 rfl) ?_
  refine lv_iload hx hb dL_law_444 (lv_at hl 1 rfl) ?_
  refine lv_iconst (v := 2) hx hb dL_law_446 (by decide) ?_
  refine lv_iadd hx hb dL_law_447 ?_
  refine q_topi (y := nI (7 * t + 2)) (nI_add (7 * t) 2) ?_
  refine q_sld hx hb hX hbl hbA hS (7 * t + 2) rfl (by omega) (by omega) dL_law_448 ?_
  refine wr_call (W.runV (As := [.int (xs (7 * t + 1)), .int (xs (7 * t + 2))]) (rest := []) S hm (cwV 2 hts (gL_84 tb_lw) rfl hrm.1 hrm.2.1 (by decide +kernel) ⟨by have := hrm.2.2.1; show rmM.frames + 1 ≤ 11; omega, by have := hrm.2.2.2; show 8 + (3 + 11) + rmM.locals ≤ 394; omega⟩) (pM_V hPM hKM) rfl rfl hl.1 rfl (lv_room (Nat.le_of_ble_eq_true rfl)) dL_law_449 ⟨by show cells + 1 + 0 ≤ 1047; omega, by show slots + 6 + 0 ≤ 9875; omega⟩) hS hAM (fun H locs hPM hS _ hfr => ?_)
  have hP := keepX6 hP hfr hdis
  refine W.eq (g2 := F0 m 452 ls [.long bv]) rfl ?_
  refine lv_lstore hx hb dL_law_452 hl (by decide) rfl (fun ls hl => ?_)
  have hl : lv_has ls 8 [(6, .long bv), (5, .int k), (4, .int (nI (7 * t))), (0, .ref b), (1, .ref (aX 0)), (2, .ref (aM 0)), (3, .ref oo)] := hl
  refine lv_aload_n hx hb dL_law_454 rfl (lv_at hl 5 rfl) ?_
  refine rd_call (W.runV (As := []) (rest := []) S (cm_thrown l G aM CM T2 K3 D3 w2 k) (cwV 0 hts (gL_70 tb_lw) rfl rfl rfl (by decide +kernel) ⟨Nat.le_of_ble_eq_true rfl, Nat.le_of_ble_eq_true rfl⟩) (pM_V hPM hKM) rfl rfl hl.1 rfl (lv_room (Nat.le_of_ble_eq_true rfl)) dL_law_455 ⟨by show cells + 1 + 0 ≤ 1047; omega, by show slots + 6 + 0 ≤ 9875; omega⟩) ?_
  refine lv_iload hx hb dL_law_458 (lv_at hl 1 rfl) ?_
  refine lv_icmp_eq (tgt := 465) hx hb dL_law_460 (by decide) (fun _ => ?_) (fun hc => absurd (rfl) hc)
  refine lv_iload hx hb dL_law_465 (lv_at hl 1 rfl) ?_
  by_cases hk : k = 0
  · refine lv_if_ne (tgt := 481) hx hb dL_law_467 (by decide) (fun hc => absurd (hk) hc) (fun _ => ?_)
    refine lv_aload_n hx hb dL_law_470 rfl (lv_at hl 6 rfl) ?_
    refine lv_iconst (v := 0) hx hb dL_law_471 (by decide) ?_
    refine q_lald hx hb hKX hP 5 4 rfl rfl 0 rfl (by decide) (by decide) dL_law_472 ?_
    refine lv_lload hx hb dL_law_473 (lv_at hl 0 rfl) ?_
    refine W.lcmp hx hb dL_law_475 ?_
    refine lv_if_eq (tgt := 481) hx hb dL_law_476 (by decide) (fun _ => ?_) (fun hc => absurd ((lg_cmp_eq _ _).mpr (hres hk)) hc)
    refine lv_goto (tgt := 1185) hx hb dL_law_481 (by decide) ?_
    exact cont H locs ls hP hPM hS (lv_sub hl [2, 3, 4, 5, 6] rfl)
  · refine lv_if_ne (tgt := 481) hx hb dL_law_467 (by decide) (fun _ => ?_) (fun hc => absurd hc (hk))
    refine lv_goto (tgt := 1185) hx hb dL_law_481 (by decide) ?_
    exact cont H locs ls hP hPM hS (lv_sub hl [2, 3, 4, 5, 6] rfl)
set_option maxHeartbeats 4000000 in
set_option maxRecDepth 100000 in
theorem op_at {p : Program} {l : Launch} {e : Env} {s : State} {m : MethodId} {below : List Frame} {meth : Method} {c : Code} {b L : Nat} {xs : Nat → Int32} {G : va_G} {aX : Nat → Nat} {CX : Nat → ClassId} {aM : Nat → Nat} {CM : Nat → ClassId} {oo : Nat} {Co : ClassId} (h : LC p s m meth c b L xs G aX CX aM CM oo Co) {Q : State → Prop} {cells slots : Nat} (hcs : cells + 1 ≤ 1047) (hss : slots + 6 ≤ 9875) {t : Nat} (ht : 7 * t + 7 ≤ L) {K D K2 D2 K3 D3 : Nat → Int64} {Wt O W2 O2 : Nat → Int32} {n n2 : Int32} {f f2 : Nat → Int64} {T T2 : Nat → Bool} {w w2 : Nat → Int32} {th k : Int32} {rmM : Room} (hrm : rmM.cells = 0 ∧ rmM.slots = 0 ∧ rmM.frames ≤ 2 ∧ rmM.locals ≤ 60) {x0 : Int32} (hx0 : xs (7 * t + 1) = x0) {bv : Int32} (hw : Met l yL_at wsL_at { frames := 8, cells := 1, slots := 6, locals := 150 } (va_Pc [.ref (aX 0), .int x0, .ref oo] (bXo G aX CX K D Wt O n oo Co f)) (wr_Q G vwCl (some (.int k)) (wXo aX CX K2 D2 W2 O2 n2 oo Co f2) (aXo aX oo)) 1 6 (aXo aX oo)) (hm : Met l yX1_at wsX1_at rmM (va_Pc [.ref (aM 0), .int x0] (rM G aM CM T K D w th)) (wr_Q G vwCl (some (.int bv)) (wM aM CM T2 K3 D3 w2 k) (aX5 aM)) 0 0 (aX5 aM)) (hres : k = 0 → f2 0 = bv.toInt64) (cont : ∀ (H : Heap) (locs : List Loc) (ls : Array Slot), va_P G vwCl (wXo aX CX K2 D2 W2 O2 n2 oo Co f2) H → va_P G vwCl (wM aM CM T2 K3 D3 w2 k) H → va_S (fun q => s.heap.size ≤ q) s.heap H locs → lv_has ls 8 [(4, .int (nI (7 * t))), (0, .ref b), (1, .ref (aX 0)), (2, .ref (aM 0)), (3, .ref oo)] → W p l e room_1 s m #[Value.ref b] below meth c H locs (cells + 1) (slots + 6) Q (F0 m 1185 ls [])) : ∀ (H : Heap) (locs : List Loc) (ls : Array Slot), va_P G vwCl (wXo aX CX K D Wt O n oo Co f) H → va_P G vwCl (wM aM CM T K D w th) H → va_S (fun q => s.heap.size ≤ q) s.heap H locs → lv_has ls 8 [(4, .int (nI (7 * t))), (0, .ref b), (1, .ref (aX 0)), (2, .ref (aM 0)), (3, .ref oo)] → W p l e room_1 s m #[Value.ref b] below meth c H locs cells slots Q (F0 m 484 ls []) := by
  subst hx0
  obtain ⟨⟨S, hr, hlk, hX, hbl, hL⟩, ⟨hKX, hKM, hZ, hNc⟩, hapX, hapM, hdis, hAX, hAM⟩ := h
  obtain ⟨hx, hb, hml, hown, hts⟩ := id S
  have hbA : ¬ (fun q => s.heap.size ≤ q) b := fun z => Nat.not_lt.mpr z hbl
  intro H locs ls hP hPM hS hl
  have hl : lv_has ls 8 [(4, .int (nI (7 * t))), (0, .ref b), (1, .ref (aX 0)), (2, .ref (aM 0)), (3, .ref oo)] := hl
  refine lv_aload_n hx hb dL_law_484 rfl (lv_at hl 2 rfl) ?_
  refine lv_aload_n hx hb dL_law_485 rfl (lv_at hl 1 rfl) ?_
  refine lv_iload hx hb dL_law_486 (lv_at hl 0 rfl) ?_
  refine lv_iconst (v := 1) hx hb dL_law_488 (by decide) ?_
  refine lv_iadd hx hb dL_law_489 ?_
  refine q_topi (y := nI (7 * t + 1)) (nI_add (7 * t) 1) ?_
  refine q_sld hx hb hX hbl hbA hS (7 * t + 1) rfl (by omega) (by omega) dL_law_490 ?_
  refine lv_aload_n hx hb dL_law_491 rfl (lv_at hl 4 rfl) ?_
  refine sw_call (n := 3) (As := [.ref (aX 0), .int (xs (7 * t + 1)), .ref oo]) (rest := []) (hh := [(0, 9, 12, 19)]) S hw rfl rfl ⟨Nat.le_of_ble_eq_true rfl, Nat.le_of_ble_eq_true rfl⟩ (gdC tb_lw w_co_L_at) (hts _ (tb_lw _ w_co_L_at)) (hts _ (tb_lw _ w_st_L_at)) (hts _ (tb_lw _ w_in_L)) (hts _ (tb_lw _ w_ml_L_85)) (by decide +kernel) (preXo hP hKX hZ hNc hS) rfl hl.1 rfl (lv_room (Nat.le_of_ble_eq_true rfl)) dL_law_492 ⟨by show cells + 1 ≤ 1047; omega, by show slots + 6 ≤ 9875; omega⟩ hS hAX (fun H locs hP hS _ hfr => ?_)
  have hPM := keepM hPM hfr (fun i hi z => hdis _ z ⟨i, hi, rfl⟩)
  refine W.eq (g2 := F0 m 495 ls [.int k]) rfl ?_
  refine lv_istore hx hb dL_law_495 hl (by decide) rfl (fun ls hl => ?_)
  have hl : lv_has ls 8 [(5, .int k), (4, .int (nI (7 * t))), (0, .ref b), (1, .ref (aX 0)), (2, .ref (aM 0)), (3, .ref oo)] := hl
  refine lv_aload_n hx hb dL_law_497 rfl (lv_at hl 4 rfl) ?_
  refine lv_aload_n hx hb dL_law_498 rfl (lv_at hl 2 rfl) ?_
  refine lv_iload hx hb dL_law_499 (lv_at hl 1 rfl) ?_
  refine lv_iconst (v := 1) hx hb dL_law_501 (by decide) ?_
  refine lv_iadd hx hb dL_law_502 ?_
  refine q_topi (y := nI (7 * t + 1)) (nI_add (7 * t) 1) ?_
  refine q_sld hx hb hX hbl hbA hS (7 * t + 1) rfl (by omega) (by omega) dL_law_503 ?_
  refine wr_call (W.runV (As := [.int (xs (7 * t + 1))]) (rest := []) S hm (cwV 1 hts (gL_87 tb_lw) rfl hrm.1 hrm.2.1 (by decide +kernel) ⟨by have := hrm.2.2.1; show rmM.frames + 1 ≤ 11; omega, by have := hrm.2.2.2; show 8 + (3 + 11) + rmM.locals ≤ 394; omega⟩) (pM_V hPM hKM) rfl rfl hl.1 rfl (lv_room (Nat.le_of_ble_eq_true rfl)) dL_law_504 ⟨by show cells + 1 + 0 ≤ 1047; omega, by show slots + 6 + 0 ≤ 9875; omega⟩) hS hAM (fun H locs hPM hS _ hfr => ?_)
  have hP := keepX6 hP hfr hdis
  refine W.eq (g2 := F0 m 507 ls [.int bv]) rfl ?_
  refine lv_istore hx hb dL_law_507 hl (by decide) rfl (fun ls hl => ?_)
  have hl : lv_has ls 8 [(6, .int bv), (5, .int k), (4, .int (nI (7 * t))), (0, .ref b), (1, .ref (aX 0)), (2, .ref (aM 0)), (3, .ref oo)] := hl
  refine lv_aload_n hx hb dL_law_509 rfl (lv_at hl 5 rfl) ?_
  refine rd_call (W.runV (As := []) (rest := []) S (cm_thrown l G aM CM T2 K3 D3 w2 k) (cwV 0 hts (gL_70 tb_lw) rfl rfl rfl (by decide +kernel) ⟨Nat.le_of_ble_eq_true rfl, Nat.le_of_ble_eq_true rfl⟩) (pM_V hPM hKM) rfl rfl hl.1 rfl (lv_room (Nat.le_of_ble_eq_true rfl)) dL_law_510 ⟨by show cells + 1 + 0 ≤ 1047; omega, by show slots + 6 + 0 ≤ 9875; omega⟩) ?_
  refine lv_iload hx hb dL_law_513 (lv_at hl 1 rfl) ?_
  refine lv_icmp_eq (tgt := 520) hx hb dL_law_515 (by decide) (fun _ => ?_) (fun hc => absurd (rfl) hc)
  refine lv_iload hx hb dL_law_520 (lv_at hl 1 rfl) ?_
  by_cases hk : k = 0
  · refine lv_if_ne (tgt := 537) hx hb dL_law_522 (by decide) (fun hc => absurd (hk) hc) (fun _ => ?_)
    refine lv_aload_n hx hb dL_law_525 rfl (lv_at hl 6 rfl) ?_
    refine lv_iconst (v := 0) hx hb dL_law_526 (by decide) ?_
    refine q_lald hx hb hKX hP 5 4 rfl rfl 0 rfl (by decide) (by decide) dL_law_527 ?_
    refine lv_iload hx hb dL_law_528 (lv_at hl 0 rfl) ?_
    refine lv_i2l hx hb dL_law_530 rfl ?_
    refine W.lcmp hx hb dL_law_531 ?_
    refine lv_if_eq (tgt := 537) hx hb dL_law_532 (by decide) (fun _ => ?_) (fun hc => absurd ((lg_cmp_eq _ _).mpr (hres hk)) hc)
    refine lv_goto (tgt := 1185) hx hb dL_law_537 (by decide) ?_
    exact cont H locs ls hP hPM hS (lv_sub hl [2, 3, 4, 5, 6] rfl)
  · refine lv_if_ne (tgt := 537) hx hb dL_law_522 (by decide) (fun _ => ?_) (fun hc => absurd hc (hk))
    refine lv_goto (tgt := 1185) hx hb dL_law_537 (by decide) ?_
    exact cont H locs ls hP hPM hS (lv_sub hl [2, 3, 4, 5, 6] rfl)
set_option maxHeartbeats 4000000 in
set_option maxRecDepth 100000 in
theorem op_rank {p : Program} {l : Launch} {e : Env} {s : State} {m : MethodId} {below : List Frame} {meth : Method} {c : Code} {b L : Nat} {xs : Nat → Int32} {G : va_G} {aX : Nat → Nat} {CX : Nat → ClassId} {aM : Nat → Nat} {CM : Nat → ClassId} {oo : Nat} {Co : ClassId} (h : LC p s m meth c b L xs G aX CX aM CM oo Co) {Q : State → Prop} {cells slots : Nat} (hcs : cells + 1 ≤ 1047) (hss : slots + 6 ≤ 9875) {t : Nat} (ht : 7 * t + 7 ≤ L) {K D K2 D2 K3 D3 : Nat → Int64} {Wt O W2 O2 : Nat → Int32} {n n2 : Int32} {f f2 : Nat → Int64} {T T2 : Nat → Bool} {w w2 : Nat → Int32} {th k : Int32} {rmM : Room} (hrm : rmM.cells = 0 ∧ rmM.slots = 0 ∧ rmM.frames ≤ 2 ∧ rmM.locals ≤ 60) {x0 : Int32} (hx0 : xs (7 * t + 1) = x0) {bv : Int32} (hw : Met l yL_rank wsL_rank { frames := 8, cells := 1, slots := 6, locals := 150 } (va_Pc [.ref (aX 0), .int x0, .ref oo] (bXo G aX CX K D Wt O n oo Co f)) (wr_Q G vwCl (some (.int k)) (wXo aX CX K2 D2 W2 O2 n2 oo Co f2) (aXo aX oo)) 1 6 (aXo aX oo)) (hm : Met l yX1_rank wsX1_rank rmM (va_Pc [.ref (aM 0), .int x0] (rM G aM CM T K D w th)) (wr_Q G vwCl (some (.int bv)) (wM aM CM T2 K3 D3 w2 k) (aX5 aM)) 0 0 (aX5 aM)) (hres : k = 0 → f2 0 = bv.toInt64) (cont : ∀ (H : Heap) (locs : List Loc) (ls : Array Slot), va_P G vwCl (wXo aX CX K2 D2 W2 O2 n2 oo Co f2) H → va_P G vwCl (wM aM CM T2 K3 D3 w2 k) H → va_S (fun q => s.heap.size ≤ q) s.heap H locs → lv_has ls 8 [(4, .int (nI (7 * t))), (0, .ref b), (1, .ref (aX 0)), (2, .ref (aM 0)), (3, .ref oo)] → W p l e room_1 s m #[Value.ref b] below meth c H locs (cells + 1) (slots + 6) Q (F0 m 1185 ls [])) : ∀ (H : Heap) (locs : List Loc) (ls : Array Slot), va_P G vwCl (wXo aX CX K D Wt O n oo Co f) H → va_P G vwCl (wM aM CM T K D w th) H → va_S (fun q => s.heap.size ≤ q) s.heap H locs → lv_has ls 8 [(4, .int (nI (7 * t))), (0, .ref b), (1, .ref (aX 0)), (2, .ref (aM 0)), (3, .ref oo)] → W p l e room_1 s m #[Value.ref b] below meth c H locs cells slots Q (F0 m 540 ls []) := by
  subst hx0
  obtain ⟨⟨S, hr, hlk, hX, hbl, hL⟩, ⟨hKX, hKM, hZ, hNc⟩, hapX, hapM, hdis, hAX, hAM⟩ := h
  obtain ⟨hx, hb, hml, hown, hts⟩ := id S
  have hbA : ¬ (fun q => s.heap.size ≤ q) b := fun z => Nat.not_lt.mpr z hbl
  intro H locs ls hP hPM hS hl
  have hl : lv_has ls 8 [(4, .int (nI (7 * t))), (0, .ref b), (1, .ref (aX 0)), (2, .ref (aM 0)), (3, .ref oo)] := hl
  refine lv_aload_n hx hb dL_law_540 rfl (lv_at hl 2 rfl) ?_
  refine lv_aload_n hx hb dL_law_541 rfl (lv_at hl 1 rfl) ?_
  refine lv_iload hx hb dL_law_542 (lv_at hl 0 rfl) ?_
  refine lv_iconst (v := 1) hx hb dL_law_544 (by decide) ?_
  refine lv_iadd hx hb dL_law_545 ?_
  refine q_topi (y := nI (7 * t + 1)) (nI_add (7 * t) 1) ?_
  refine q_sld hx hb hX hbl hbA hS (7 * t + 1) rfl (by omega) (by omega) dL_law_546 ?_
  refine lv_aload_n hx hb dL_law_547 rfl (lv_at hl 4 rfl) ?_
  refine sw_call (n := 3) (As := [.ref (aX 0), .int (xs (7 * t + 1)), .ref oo]) (rest := []) (hh := [(0, 9, 12, 19)]) S hw rfl rfl ⟨Nat.le_of_ble_eq_true rfl, Nat.le_of_ble_eq_true rfl⟩ (gdC tb_lw w_co_L_rank) (hts _ (tb_lw _ w_co_L_rank)) (hts _ (tb_lw _ w_st_L_rank)) (hts _ (tb_lw _ w_in_L)) (hts _ (tb_lw _ w_ml_L_88)) (by decide +kernel) (preXo hP hKX hZ hNc hS) rfl hl.1 rfl (lv_room (Nat.le_of_ble_eq_true rfl)) dL_law_548 ⟨by show cells + 1 ≤ 1047; omega, by show slots + 6 ≤ 9875; omega⟩ hS hAX (fun H locs hP hS _ hfr => ?_)
  have hPM := keepM hPM hfr (fun i hi z => hdis _ z ⟨i, hi, rfl⟩)
  refine W.eq (g2 := F0 m 551 ls [.int k]) rfl ?_
  refine lv_istore hx hb dL_law_551 hl (by decide) rfl (fun ls hl => ?_)
  have hl : lv_has ls 8 [(5, .int k), (4, .int (nI (7 * t))), (0, .ref b), (1, .ref (aX 0)), (2, .ref (aM 0)), (3, .ref oo)] := hl
  refine lv_aload_n hx hb dL_law_553 rfl (lv_at hl 4 rfl) ?_
  refine lv_aload_n hx hb dL_law_554 rfl (lv_at hl 2 rfl) ?_
  refine lv_iload hx hb dL_law_555 (lv_at hl 1 rfl) ?_
  refine lv_iconst (v := 1) hx hb dL_law_557 (by decide) ?_
  refine lv_iadd hx hb dL_law_558 ?_
  refine q_topi (y := nI (7 * t + 1)) (nI_add (7 * t) 1) ?_
  refine q_sld hx hb hX hbl hbA hS (7 * t + 1) rfl (by omega) (by omega) dL_law_559 ?_
  refine wr_call (W.runV (As := [.int (xs (7 * t + 1))]) (rest := []) S hm (cwV 1 hts (gL_90 tb_lw) rfl hrm.1 hrm.2.1 (by decide +kernel) ⟨by have := hrm.2.2.1; show rmM.frames + 1 ≤ 11; omega, by have := hrm.2.2.2; show 8 + (2 + 11) + rmM.locals ≤ 394; omega⟩) (pM_V hPM hKM) rfl rfl hl.1 rfl (lv_room (Nat.le_of_ble_eq_true rfl)) dL_law_560 ⟨by show cells + 1 + 0 ≤ 1047; omega, by show slots + 6 + 0 ≤ 9875; omega⟩) hS hAM (fun H locs hPM hS _ hfr => ?_)
  have hP := keepX6 hP hfr hdis
  refine W.eq (g2 := F0 m 563 ls [.int bv]) rfl ?_
  refine lv_istore hx hb dL_law_563 hl (by decide) rfl (fun ls hl => ?_)
  have hl : lv_has ls 8 [(6, .int bv), (5, .int k), (4, .int (nI (7 * t))), (0, .ref b), (1, .ref (aX 0)), (2, .ref (aM 0)), (3, .ref oo)] := hl
  refine lv_aload_n hx hb dL_law_565 rfl (lv_at hl 5 rfl) ?_
  refine rd_call (W.runV (As := []) (rest := []) S (cm_thrown l G aM CM T2 K3 D3 w2 k) (cwV 0 hts (gL_70 tb_lw) rfl rfl rfl (by decide +kernel) ⟨Nat.le_of_ble_eq_true rfl, Nat.le_of_ble_eq_true rfl⟩) (pM_V hPM hKM) rfl rfl hl.1 rfl (lv_room (Nat.le_of_ble_eq_true rfl)) dL_law_566 ⟨by show cells + 1 + 0 ≤ 1047; omega, by show slots + 6 + 0 ≤ 9875; omega⟩) ?_
  refine lv_iload hx hb dL_law_569 (lv_at hl 1 rfl) ?_
  refine lv_icmp_eq (tgt := 576) hx hb dL_law_571 (by decide) (fun _ => ?_) (fun hc => absurd (rfl) hc)
  refine lv_iload hx hb dL_law_576 (lv_at hl 1 rfl) ?_
  by_cases hk : k = 0
  · refine lv_if_ne (tgt := 593) hx hb dL_law_578 (by decide) (fun hc => absurd (hk) hc) (fun _ => ?_)
    refine lv_aload_n hx hb dL_law_581 rfl (lv_at hl 6 rfl) ?_
    refine lv_iconst (v := 0) hx hb dL_law_582 (by decide) ?_
    refine q_lald hx hb hKX hP 5 4 rfl rfl 0 rfl (by decide) (by decide) dL_law_583 ?_
    refine lv_iload hx hb dL_law_584 (lv_at hl 0 rfl) ?_
    refine lv_i2l hx hb dL_law_586 rfl ?_
    refine W.lcmp hx hb dL_law_587 ?_
    refine lv_if_eq (tgt := 593) hx hb dL_law_588 (by decide) (fun _ => ?_) (fun hc => absurd ((lg_cmp_eq _ _).mpr (hres hk)) hc)
    refine lv_goto (tgt := 1185) hx hb dL_law_593 (by decide) ?_
    exact cont H locs ls hP hPM hS (lv_sub hl [2, 3, 4, 5, 6] rfl)
  · refine lv_if_ne (tgt := 593) hx hb dL_law_578 (by decide) (fun _ => ?_) (fun hc => absurd hc (hk))
    refine lv_goto (tgt := 1185) hx hb dL_law_593 (by decide) ?_
    exact cont H locs ls hP hPM hS (lv_sub hl [2, 3, 4, 5, 6] rfl)
set_option maxHeartbeats 4000000 in
set_option maxRecDepth 100000 in
theorem op_earliest {p : Program} {l : Launch} {e : Env} {s : State} {m : MethodId} {below : List Frame} {meth : Method} {c : Code} {b L : Nat} {xs : Nat → Int32} {G : va_G} {aX : Nat → Nat} {CX : Nat → ClassId} {aM : Nat → Nat} {CM : Nat → ClassId} {oo : Nat} {Co : ClassId} (h : LC p s m meth c b L xs G aX CX aM CM oo Co) {Q : State → Prop} {cells slots : Nat} (hcs : cells + 1 ≤ 1047) (hss : slots + 6 ≤ 9875) {t : Nat} (ht : 7 * t + 7 ≤ L) {K D K2 D2 K3 D3 : Nat → Int64} {Wt O W2 O2 : Nat → Int32} {n n2 : Int32} {f f2 : Nat → Int64} {T T2 : Nat → Bool} {w w2 : Nat → Int32} {th k : Int32} {rmM : Room} (hrm : rmM.cells = 0 ∧ rmM.slots = 0 ∧ rmM.frames ≤ 2 ∧ rmM.locals ≤ 60) {x0 : Int64} (hx0 : ft_lg (xs (7 * t + 1)) (xs (7 * t + 2)) = x0) {bv : Int32} (hw : Met l yL_earliest wsL_earliest { frames := 8, cells := 1, slots := 6, locals := 150 } (va_Pc [.ref (aX 0), .long x0, .ref oo] (bXo G aX CX K D Wt O n oo Co f)) (wr_Q G vwCl (some (.int k)) (wXo aX CX K2 D2 W2 O2 n2 oo Co f2) (aXo aX oo)) 1 6 (aXo aX oo)) (hm : Met l yX1_earliest wsX1_earliest rmM (va_Pc [.ref (aM 0), .long x0] (rM G aM CM T K D w th)) (wr_Q G vwCl (some (.int bv)) (wM aM CM T2 K3 D3 w2 k) (aX5 aM)) 0 0 (aX5 aM)) (hres : k = 0 → f2 0 = bv.toInt64) (cont : ∀ (H : Heap) (locs : List Loc) (ls : Array Slot), va_P G vwCl (wXo aX CX K2 D2 W2 O2 n2 oo Co f2) H → va_P G vwCl (wM aM CM T2 K3 D3 w2 k) H → va_S (fun q => s.heap.size ≤ q) s.heap H locs → lv_has ls 8 [(4, .int (nI (7 * t))), (0, .ref b), (1, .ref (aX 0)), (2, .ref (aM 0)), (3, .ref oo)] → W p l e room_1 s m #[Value.ref b] below meth c H locs (cells + 1) (slots + 6) Q (F0 m 1185 ls [])) : ∀ (H : Heap) (locs : List Loc) (ls : Array Slot), va_P G vwCl (wXo aX CX K D Wt O n oo Co f) H → va_P G vwCl (wM aM CM T K D w th) H → va_S (fun q => s.heap.size ≤ q) s.heap H locs → lv_has ls 8 [(4, .int (nI (7 * t))), (0, .ref b), (1, .ref (aX 0)), (2, .ref (aM 0)), (3, .ref oo)] → W p l e room_1 s m #[Value.ref b] below meth c H locs cells slots Q (F0 m 596 ls []) := by
  subst hx0
  obtain ⟨⟨S, hr, hlk, hX, hbl, hL⟩, ⟨hKX, hKM, hZ, hNc⟩, hapX, hapM, hdis, hAX, hAM⟩ := h
  obtain ⟨hx, hb, hml, hown, hts⟩ := id S
  have hbA : ¬ (fun q => s.heap.size ≤ q) b := fun z => Nat.not_lt.mpr z hbl
  intro H locs ls hP hPM hS hl
  have hl : lv_has ls 8 [(4, .int (nI (7 * t))), (0, .ref b), (1, .ref (aX 0)), (2, .ref (aM 0)), (3, .ref oo)] := hl
  refine lv_aload_n hx hb dL_law_596 rfl (lv_at hl 2 rfl) ?_
  refine lv_aload_n hx hb dL_law_597 rfl (lv_at hl 1 rfl) ?_
  refine lv_iload hx hb dL_law_598 (lv_at hl 0 rfl) ?_
  refine lv_iconst (v := 1) hx hb dL_law_600 (by decide) ?_
  refine lv_iadd hx hb dL_law_601 ?_
  refine q_topi (y := nI (7 * t + 1)) (nI_add (7 * t) 1) ?_
  refine q_sld hx hb hX hbl hbA hS (7 * t + 1) rfl (by omega) (by omega) dL_law_602 ?_
  refine lv_i2l hx hb dL_law_603 rfl ?_
  refine lv_bipush (v := 32) hx hb dL_law_604 (by decide) ?_
  refine lv_lshl hx hb dL_law_606 rfl ?_
  refine lv_aload_n hx hb dL_law_607 rfl (lv_at hl 1 rfl) ?_
  refine lv_iload hx hb dL_law_608 (lv_at hl 0 rfl) ?_
  refine lv_iconst (v := 2) hx hb dL_law_610 (by decide) ?_
  refine lv_iadd hx hb dL_law_611 ?_
  refine q_topi (y := nI (7 * t + 2)) (nI_add (7 * t) 2) ?_
  refine q_sld hx hb hX hbl hbA hS (7 * t + 2) rfl (by omega) (by omega) dL_law_612 ?_
  refine lv_i2l hx hb dL_law_613 rfl ?_
  refine lv_ldc2 (v := 4294967295) hx hb hown (hts _ (tb_lw _ w_k_L_62)) dL_law_614 ?_
  refine lv_land hx hb dL_law_617 ?_
  refine lv_lor hx hb dL_law_618 ?_
  refine q_topl (y := ft_lg (xs (7 * t + 1)) (xs (7 * t + 2))) rfl ?_
  refine lv_aload_n hx hb dL_law_619 rfl (lv_at hl 4 rfl) ?_
  refine sw_call (n := 3) (As := [.ref (aX 0), .long (ft_lg (xs (7 * t + 1)) (xs (7 * t + 2))), .ref oo]) (rest := []) (hh := [(0, 9, 12, 19)]) S hw rfl rfl ⟨Nat.le_of_ble_eq_true rfl, Nat.le_of_ble_eq_true rfl⟩ (gdC tb_lw w_co_L_earliest) (hts _ (tb_lw _ w_co_L_earliest)) (hts _ (tb_lw _ w_st_L_earliest)) (hts _ (tb_lw _ w_in_L)) (hts _ (tb_lw _ w_ml_L_91)) (by decide +kernel) (preXo hP hKX hZ hNc hS) rfl hl.1 rfl (lv_room (Nat.le_of_ble_eq_true rfl)) dL_law_620 ⟨by show cells + 1 ≤ 1047; omega, by show slots + 6 ≤ 9875; omega⟩ hS hAX (fun H locs hP hS _ hfr => ?_)
  have hPM := keepM hPM hfr (fun i hi z => hdis _ z ⟨i, hi, rfl⟩)
  refine W.eq (g2 := F0 m 623 ls [.int k]) rfl ?_
  refine lv_istore hx hb dL_law_623 hl (by decide) rfl (fun ls hl => ?_)
  have hl : lv_has ls 8 [(5, .int k), (4, .int (nI (7 * t))), (0, .ref b), (1, .ref (aX 0)), (2, .ref (aM 0)), (3, .ref oo)] := hl
  refine lv_aload_n hx hb dL_law_625 rfl (lv_at hl 4 rfl) ?_
  refine lv_aload_n hx hb dL_law_626 rfl (lv_at hl 2 rfl) ?_
  refine lv_iload hx hb dL_law_627 (lv_at hl 1 rfl) ?_
  refine lv_iconst (v := 1) hx hb dL_law_629 (by decide) ?_
  refine lv_iadd hx hb dL_law_630 ?_
  refine q_topi (y := nI (7 * t + 1)) (nI_add (7 * t) 1) ?_
  refine q_sld hx hb hX hbl hbA hS (7 * t + 1) rfl (by omega) (by omega) dL_law_631 ?_
  refine lv_i2l hx hb dL_law_632 rfl ?_
  refine lv_bipush (v := 32) hx hb dL_law_633 (by decide) ?_
  refine lv_lshl hx hb dL_law_635 rfl ?_
  refine lv_aload_n hx hb dL_law_636 rfl (lv_at hl 2 rfl) ?_
  refine lv_iload hx hb dL_law_637 (lv_at hl 1 rfl) ?_
  refine lv_iconst (v := 2) hx hb dL_law_639 (by decide) ?_
  refine lv_iadd hx hb dL_law_640 ?_
  refine q_topi (y := nI (7 * t + 2)) (nI_add (7 * t) 2) ?_
  refine q_sld hx hb hX hbl hbA hS (7 * t + 2) rfl (by omega) (by omega) dL_law_641 ?_
  refine lv_i2l hx hb dL_law_642 rfl ?_
  refine lv_ldc2 (v := 4294967295) hx hb hown (hts _ (tb_lw _ w_k_L_62)) dL_law_643 ?_
  refine lv_land hx hb dL_law_646 ?_
  refine lv_lor hx hb dL_law_647 ?_
  refine q_topl (y := ft_lg (xs (7 * t + 1)) (xs (7 * t + 2))) rfl ?_
  refine wr_call (W.runV (As := [.long (ft_lg (xs (7 * t + 1)) (xs (7 * t + 2)))]) (rest := []) S hm (cwV 1 hts (gL_93 tb_lw) rfl hrm.1 hrm.2.1 (by decide +kernel) ⟨by have := hrm.2.2.1; show rmM.frames + 1 ≤ 11; omega, by have := hrm.2.2.2; show 8 + (3 + 11) + rmM.locals ≤ 394; omega⟩) (pM_V hPM hKM) rfl rfl hl.1 rfl (lv_room (Nat.le_of_ble_eq_true rfl)) dL_law_648 ⟨by show cells + 1 + 0 ≤ 1047; omega, by show slots + 6 + 0 ≤ 9875; omega⟩) hS hAM (fun H locs hPM hS _ hfr => ?_)
  have hP := keepX6 hP hfr hdis
  refine W.eq (g2 := F0 m 651 ls [.int bv]) rfl ?_
  refine lv_istore hx hb dL_law_651 hl (by decide) rfl (fun ls hl => ?_)
  have hl : lv_has ls 8 [(6, .int bv), (5, .int k), (4, .int (nI (7 * t))), (0, .ref b), (1, .ref (aX 0)), (2, .ref (aM 0)), (3, .ref oo)] := hl
  refine lv_aload_n hx hb dL_law_653 rfl (lv_at hl 5 rfl) ?_
  refine rd_call (W.runV (As := []) (rest := []) S (cm_thrown l G aM CM T2 K3 D3 w2 k) (cwV 0 hts (gL_70 tb_lw) rfl rfl rfl (by decide +kernel) ⟨Nat.le_of_ble_eq_true rfl, Nat.le_of_ble_eq_true rfl⟩) (pM_V hPM hKM) rfl rfl hl.1 rfl (lv_room (Nat.le_of_ble_eq_true rfl)) dL_law_654 ⟨by show cells + 1 + 0 ≤ 1047; omega, by show slots + 6 + 0 ≤ 9875; omega⟩) ?_
  refine lv_iload hx hb dL_law_657 (lv_at hl 1 rfl) ?_
  refine lv_icmp_eq (tgt := 664) hx hb dL_law_659 (by decide) (fun _ => ?_) (fun hc => absurd (rfl) hc)
  refine lv_iload hx hb dL_law_664 (lv_at hl 1 rfl) ?_
  by_cases hk : k = 0
  · refine lv_if_ne (tgt := 681) hx hb dL_law_666 (by decide) (fun hc => absurd (hk) hc) (fun _ => ?_)
    refine lv_aload_n hx hb dL_law_669 rfl (lv_at hl 6 rfl) ?_
    refine lv_iconst (v := 0) hx hb dL_law_670 (by decide) ?_
    refine q_lald hx hb hKX hP 5 4 rfl rfl 0 rfl (by decide) (by decide) dL_law_671 ?_
    refine lv_iload hx hb dL_law_672 (lv_at hl 0 rfl) ?_
    refine lv_i2l hx hb dL_law_674 rfl ?_
    refine W.lcmp hx hb dL_law_675 ?_
    refine lv_if_eq (tgt := 681) hx hb dL_law_676 (by decide) (fun _ => ?_) (fun hc => absurd ((lg_cmp_eq _ _).mpr (hres hk)) hc)
    refine lv_goto (tgt := 1185) hx hb dL_law_681 (by decide) ?_
    exact cont H locs ls hP hPM hS (lv_sub hl [2, 3, 4, 5, 6] rfl)
  · refine lv_if_ne (tgt := 681) hx hb dL_law_666 (by decide) (fun _ => ?_) (fun hc => absurd hc (hk))
    refine lv_goto (tgt := 1185) hx hb dL_law_681 (by decide) ?_
    exact cont H locs ls hP hPM hS (lv_sub hl [2, 3, 4, 5, 6] rfl)
set_option maxHeartbeats 4000000 in
set_option maxRecDepth 100000 in
theorem op_between {p : Program} {l : Launch} {e : Env} {s : State} {m : MethodId} {below : List Frame} {meth : Method} {c : Code} {b L : Nat} {xs : Nat → Int32} {G : va_G} {aX : Nat → Nat} {CX : Nat → ClassId} {aM : Nat → Nat} {CM : Nat → ClassId} {oo : Nat} {Co : ClassId} (h : LC p s m meth c b L xs G aX CX aM CM oo Co) {Q : State → Prop} {cells slots : Nat} (hcs : cells + 1 ≤ 1047) (hss : slots + 6 ≤ 9875) {t : Nat} (ht : 7 * t + 7 ≤ L) {K D K2 D2 K3 D3 : Nat → Int64} {Wt O W2 O2 : Nat → Int32} {n n2 : Int32} {f f2 : Nat → Int64} {T T2 : Nat → Bool} {w w2 : Nat → Int32} {th k : Int32} {rmM : Room} (hrm : rmM.cells = 0 ∧ rmM.slots = 0 ∧ rmM.frames ≤ 2 ∧ rmM.locals ≤ 60) {x0 : Int64} (hx0 : ft_lg (xs (7 * t + 1)) (xs (7 * t + 2)) = x0) {x1 : Int64} (hx1 : ft_lg (xs (7 * t + 3)) (xs (7 * t + 4)) = x1) {bv : Int32} (hw : Met l yL_between wsL_between { frames := 8, cells := 1, slots := 6, locals := 150 } (va_Pc [.ref (aX 0), .long x0, .long x1, .ref oo] (bXo G aX CX K D Wt O n oo Co f)) (wr_Q G vwCl (some (.int k)) (wXo aX CX K2 D2 W2 O2 n2 oo Co f2) (aXo aX oo)) 1 6 (aXo aX oo)) (hm : Met l yX1_between wsX1_between rmM (va_Pc [.ref (aM 0), .long x0, .long x1] (rM G aM CM T K D w th)) (wr_Q G vwCl (some (.int bv)) (wM aM CM T2 K3 D3 w2 k) (aX5 aM)) 0 0 (aX5 aM)) (hres : k = 0 → f2 0 = bv.toInt64) (cont : ∀ (H : Heap) (locs : List Loc) (ls : Array Slot), va_P G vwCl (wXo aX CX K2 D2 W2 O2 n2 oo Co f2) H → va_P G vwCl (wM aM CM T2 K3 D3 w2 k) H → va_S (fun q => s.heap.size ≤ q) s.heap H locs → lv_has ls 8 [(4, .int (nI (7 * t))), (0, .ref b), (1, .ref (aX 0)), (2, .ref (aM 0)), (3, .ref oo)] → W p l e room_1 s m #[Value.ref b] below meth c H locs (cells + 1) (slots + 6) Q (F0 m 1185 ls [])) : ∀ (H : Heap) (locs : List Loc) (ls : Array Slot), va_P G vwCl (wXo aX CX K D Wt O n oo Co f) H → va_P G vwCl (wM aM CM T K D w th) H → va_S (fun q => s.heap.size ≤ q) s.heap H locs → lv_has ls 8 [(4, .int (nI (7 * t))), (0, .ref b), (1, .ref (aX 0)), (2, .ref (aM 0)), (3, .ref oo)] → W p l e room_1 s m #[Value.ref b] below meth c H locs cells slots Q (F0 m 684 ls []) := by
  subst hx0
  subst hx1
  obtain ⟨⟨S, hr, hlk, hX, hbl, hL⟩, ⟨hKX, hKM, hZ, hNc⟩, hapX, hapM, hdis, hAX, hAM⟩ := h
  obtain ⟨hx, hb, hml, hown, hts⟩ := id S
  have hbA : ¬ (fun q => s.heap.size ≤ q) b := fun z => Nat.not_lt.mpr z hbl
  intro H locs ls hP hPM hS hl
  have hl : lv_has ls 8 [(4, .int (nI (7 * t))), (0, .ref b), (1, .ref (aX 0)), (2, .ref (aM 0)), (3, .ref oo)] := hl
  refine lv_aload_n hx hb dL_law_684 rfl (lv_at hl 2 rfl) ?_
  refine lv_aload_n hx hb dL_law_685 rfl (lv_at hl 1 rfl) ?_
  refine lv_iload hx hb dL_law_686 (lv_at hl 0 rfl) ?_
  refine lv_iconst (v := 1) hx hb dL_law_688 (by decide) ?_
  refine lv_iadd hx hb dL_law_689 ?_
  refine q_topi (y := nI (7 * t + 1)) (nI_add (7 * t) 1) ?_
  refine q_sld hx hb hX hbl hbA hS (7 * t + 1) rfl (by omega) (by omega) dL_law_690 ?_
  refine lv_i2l hx hb dL_law_691 rfl ?_
  refine lv_bipush (v := 32) hx hb dL_law_692 (by decide) ?_
  refine lv_lshl hx hb dL_law_694 rfl ?_
  refine lv_aload_n hx hb dL_law_695 rfl (lv_at hl 1 rfl) ?_
  refine lv_iload hx hb dL_law_696 (lv_at hl 0 rfl) ?_
  refine lv_iconst (v := 2) hx hb dL_law_698 (by decide) ?_
  refine lv_iadd hx hb dL_law_699 ?_
  refine q_topi (y := nI (7 * t + 2)) (nI_add (7 * t) 2) ?_
  refine q_sld hx hb hX hbl hbA hS (7 * t + 2) rfl (by omega) (by omega) dL_law_700 ?_
  refine lv_i2l hx hb dL_law_701 rfl ?_
  refine lv_ldc2 (v := 4294967295) hx hb hown (hts _ (tb_lw _ w_k_L_62)) dL_law_702 ?_
  refine lv_land hx hb dL_law_705 ?_
  refine lv_lor hx hb dL_law_706 ?_
  refine q_topl (y := ft_lg (xs (7 * t + 1)) (xs (7 * t + 2))) rfl ?_
  refine lv_aload_n hx hb dL_law_707 rfl (lv_at hl 1 rfl) ?_
  refine lv_iload hx hb dL_law_708 (lv_at hl 0 rfl) ?_
  refine lv_iconst (v := 3) hx hb dL_law_710 (by decide) ?_
  refine lv_iadd hx hb dL_law_711 ?_
  refine q_topi (y := nI (7 * t + 3)) (nI_add (7 * t) 3) ?_
  refine q_sld hx hb hX hbl hbA hS (7 * t + 3) rfl (by omega) (by omega) dL_law_712 ?_
  refine lv_i2l hx hb dL_law_713 rfl ?_
  refine lv_bipush (v := 32) hx hb dL_law_714 (by decide) ?_
  refine lv_lshl hx hb dL_law_716 rfl ?_
  refine lv_aload_n hx hb dL_law_717 rfl (lv_at hl 1 rfl) ?_
  refine lv_iload hx hb dL_law_718 (lv_at hl 0 rfl) ?_
  refine lv_iconst (v := 4) hx hb dL_law_720 (by decide) ?_
  refine lv_iadd hx hb dL_law_721 ?_
  refine q_topi (y := nI (7 * t + 4)) (nI_add (7 * t) 4) ?_
  refine q_sld hx hb hX hbl hbA hS (7 * t + 4) rfl (by omega) (by omega) dL_law_722 ?_
  refine lv_i2l hx hb dL_law_723 rfl ?_
  refine lv_ldc2 (v := 4294967295) hx hb hown (hts _ (tb_lw _ w_k_L_62)) dL_law_724 ?_
  refine lv_land hx hb dL_law_727 ?_
  refine lv_lor hx hb dL_law_728 ?_
  refine q_topl (y := ft_lg (xs (7 * t + 3)) (xs (7 * t + 4))) rfl ?_
  refine lv_aload_n hx hb dL_law_729 rfl (lv_at hl 4 rfl) ?_
  refine sw_call (n := 4) (As := [.ref (aX 0), .long (ft_lg (xs (7 * t + 1)) (xs (7 * t + 2))), .long (ft_lg (xs (7 * t + 3)) (xs (7 * t + 4))), .ref oo]) (rest := []) (hh := [(0, 11, 14, 19)]) S hw rfl rfl ⟨Nat.le_of_ble_eq_true rfl, Nat.le_of_ble_eq_true rfl⟩ (gdC tb_lw w_co_L_between) (hts _ (tb_lw _ w_co_L_between)) (hts _ (tb_lw _ w_st_L_between)) (hts _ (tb_lw _ w_in_L)) (hts _ (tb_lw _ w_ml_L_94)) (by decide +kernel) (preXo hP hKX hZ hNc hS) rfl hl.1 rfl (lv_room (Nat.le_of_ble_eq_true rfl)) dL_law_730 ⟨by show cells + 1 ≤ 1047; omega, by show slots + 6 ≤ 9875; omega⟩ hS hAX (fun H locs hP hS _ hfr => ?_)
  have hPM := keepM hPM hfr (fun i hi z => hdis _ z ⟨i, hi, rfl⟩)
  refine W.eq (g2 := F0 m 733 ls [.int k]) rfl ?_
  refine lv_istore hx hb dL_law_733 hl (by decide) rfl (fun ls hl => ?_)
  have hl : lv_has ls 8 [(5, .int k), (4, .int (nI (7 * t))), (0, .ref b), (1, .ref (aX 0)), (2, .ref (aM 0)), (3, .ref oo)] := hl
  refine lv_aload_n hx hb dL_law_735 rfl (lv_at hl 4 rfl) ?_
  refine lv_aload_n hx hb dL_law_736 rfl (lv_at hl 2 rfl) ?_
  refine lv_iload hx hb dL_law_737 (lv_at hl 1 rfl) ?_
  refine lv_iconst (v := 1) hx hb dL_law_739 (by decide) ?_
  refine lv_iadd hx hb dL_law_740 ?_
  refine q_topi (y := nI (7 * t + 1)) (nI_add (7 * t) 1) ?_
  refine q_sld hx hb hX hbl hbA hS (7 * t + 1) rfl (by omega) (by omega) dL_law_741 ?_
  refine lv_i2l hx hb dL_law_742 rfl ?_
  refine lv_bipush (v := 32) hx hb dL_law_743 (by decide) ?_
  refine lv_lshl hx hb dL_law_745 rfl ?_
  refine lv_aload_n hx hb dL_law_746 rfl (lv_at hl 2 rfl) ?_
  refine lv_iload hx hb dL_law_747 (lv_at hl 1 rfl) ?_
  refine lv_iconst (v := 2) hx hb dL_law_749 (by decide) ?_
  refine lv_iadd hx hb dL_law_750 ?_
  refine q_topi (y := nI (7 * t + 2)) (nI_add (7 * t) 2) ?_
  refine q_sld hx hb hX hbl hbA hS (7 * t + 2) rfl (by omega) (by omega) dL_law_751 ?_
  refine lv_i2l hx hb dL_law_752 rfl ?_
  refine lv_ldc2 (v := 4294967295) hx hb hown (hts _ (tb_lw _ w_k_L_62)) dL_law_753 ?_
  refine lv_land hx hb dL_law_756 ?_
  refine lv_lor hx hb dL_law_757 ?_
  refine q_topl (y := ft_lg (xs (7 * t + 1)) (xs (7 * t + 2))) rfl ?_
  refine lv_aload_n hx hb dL_law_758 rfl (lv_at hl 2 rfl) ?_
  refine lv_iload hx hb dL_law_759 (lv_at hl 1 rfl) ?_
  refine lv_iconst (v := 3) hx hb dL_law_761 (by decide) ?_
  refine lv_iadd hx hb dL_law_762 ?_
  refine q_topi (y := nI (7 * t + 3)) (nI_add (7 * t) 3) ?_
  refine q_sld hx hb hX hbl hbA hS (7 * t + 3) rfl (by omega) (by omega) dL_law_763 ?_
  refine lv_i2l hx hb dL_law_764 rfl ?_
  refine lv_bipush (v := 32) hx hb dL_law_765 (by decide) ?_
  refine lv_lshl hx hb dL_law_767 rfl ?_
  refine lv_aload_n hx hb dL_law_768 rfl (lv_at hl 2 rfl) ?_
  refine lv_iload hx hb dL_law_769 (lv_at hl 1 rfl) ?_
  refine lv_iconst (v := 4) hx hb dL_law_771 (by decide) ?_
  refine lv_iadd hx hb dL_law_772 ?_
  refine q_topi (y := nI (7 * t + 4)) (nI_add (7 * t) 4) ?_
  refine q_sld hx hb hX hbl hbA hS (7 * t + 4) rfl (by omega) (by omega) dL_law_773 ?_
  refine lv_i2l hx hb dL_law_774 rfl ?_
  refine lv_ldc2 (v := 4294967295) hx hb hown (hts _ (tb_lw _ w_k_L_62)) dL_law_775 ?_
  refine lv_land hx hb dL_law_778 ?_
  refine lv_lor hx hb dL_law_779 ?_
  refine q_topl (y := ft_lg (xs (7 * t + 3)) (xs (7 * t + 4))) rfl ?_
  refine wr_call (W.runV (As := [.long (ft_lg (xs (7 * t + 1)) (xs (7 * t + 2))), .long (ft_lg (xs (7 * t + 3)) (xs (7 * t + 4)))]) (rest := []) S hm (cwV 2 hts (gL_97 tb_lw) rfl hrm.1 hrm.2.1 (by decide +kernel) ⟨by have := hrm.2.2.1; show rmM.frames + 1 ≤ 11; omega, by have := hrm.2.2.2; show 8 + (5 + 11) + rmM.locals ≤ 394; omega⟩) (pM_V hPM hKM) rfl rfl hl.1 rfl (lv_room (Nat.le_of_ble_eq_true rfl)) dL_law_780 ⟨by show cells + 1 + 0 ≤ 1047; omega, by show slots + 6 + 0 ≤ 9875; omega⟩) hS hAM (fun H locs hPM hS _ hfr => ?_)
  have hP := keepX6 hP hfr hdis
  refine W.eq (g2 := F0 m 783 ls [.int bv]) rfl ?_
  refine lv_istore hx hb dL_law_783 hl (by decide) rfl (fun ls hl => ?_)
  have hl : lv_has ls 8 [(6, .int bv), (5, .int k), (4, .int (nI (7 * t))), (0, .ref b), (1, .ref (aX 0)), (2, .ref (aM 0)), (3, .ref oo)] := hl
  refine lv_aload_n hx hb dL_law_785 rfl (lv_at hl 5 rfl) ?_
  refine rd_call (W.runV (As := []) (rest := []) S (cm_thrown l G aM CM T2 K3 D3 w2 k) (cwV 0 hts (gL_70 tb_lw) rfl rfl rfl (by decide +kernel) ⟨Nat.le_of_ble_eq_true rfl, Nat.le_of_ble_eq_true rfl⟩) (pM_V hPM hKM) rfl rfl hl.1 rfl (lv_room (Nat.le_of_ble_eq_true rfl)) dL_law_786 ⟨by show cells + 1 + 0 ≤ 1047; omega, by show slots + 6 + 0 ≤ 9875; omega⟩) ?_
  refine lv_iload hx hb dL_law_789 (lv_at hl 1 rfl) ?_
  refine lv_icmp_eq (tgt := 796) hx hb dL_law_791 (by decide) (fun _ => ?_) (fun hc => absurd (rfl) hc)
  refine lv_iload hx hb dL_law_796 (lv_at hl 1 rfl) ?_
  by_cases hk : k = 0
  · refine lv_if_ne (tgt := 813) hx hb dL_law_798 (by decide) (fun hc => absurd (hk) hc) (fun _ => ?_)
    refine lv_aload_n hx hb dL_law_801 rfl (lv_at hl 6 rfl) ?_
    refine lv_iconst (v := 0) hx hb dL_law_802 (by decide) ?_
    refine q_lald hx hb hKX hP 5 4 rfl rfl 0 rfl (by decide) (by decide) dL_law_803 ?_
    refine lv_iload hx hb dL_law_804 (lv_at hl 0 rfl) ?_
    refine lv_i2l hx hb dL_law_806 rfl ?_
    refine W.lcmp hx hb dL_law_807 ?_
    refine lv_if_eq (tgt := 813) hx hb dL_law_808 (by decide) (fun _ => ?_) (fun hc => absurd ((lg_cmp_eq _ _).mpr (hres hk)) hc)
    refine lv_goto (tgt := 1185) hx hb dL_law_813 (by decide) ?_
    exact cont H locs ls hP hPM hS (lv_sub hl [2, 3, 4, 5, 6] rfl)
  · refine lv_if_ne (tgt := 813) hx hb dL_law_798 (by decide) (fun _ => ?_) (fun hc => absurd hc (hk))
    refine lv_goto (tgt := 1185) hx hb dL_law_813 (by decide) ?_
    exact cont H locs ls hP hPM hS (lv_sub hl [2, 3, 4, 5, 6] rfl)
set_option maxHeartbeats 4000000 in
set_option maxRecDepth 100000 in
theorem op_pick {p : Program} {l : Launch} {e : Env} {s : State} {m : MethodId} {below : List Frame} {meth : Method} {c : Code} {b L : Nat} {xs : Nat → Int32} {G : va_G} {aX : Nat → Nat} {CX : Nat → ClassId} {aM : Nat → Nat} {CM : Nat → ClassId} {oo : Nat} {Co : ClassId} (h : LC p s m meth c b L xs G aX CX aM CM oo Co) {Q : State → Prop} {cells slots : Nat} (hcs : cells + 1 ≤ 1047) (hss : slots + 6 ≤ 9875) {t : Nat} (ht : 7 * t + 7 ≤ L) {K D K2 D2 K3 D3 : Nat → Int64} {Wt O W2 O2 : Nat → Int32} {n n2 : Int32} {f f2 : Nat → Int64} {T T2 : Nat → Bool} {w w2 : Nat → Int32} {th k : Int32} {rmM : Room} (hrm : rmM.cells = 0 ∧ rmM.slots = 0 ∧ rmM.frames ≤ 2 ∧ rmM.locals ≤ 60)  {bv : Int32} (hw : Met l yL_pick wsL_pick { frames := 8, cells := 1, slots := 6, locals := 150 } (va_Pc [.ref (aX 0), .ref oo] (bXo G aX CX K D Wt O n oo Co f)) (wr_Q G vwCl (some (.int k)) (wXo aX CX K2 D2 W2 O2 n2 oo Co f2) (aXo aX oo)) 1 6 (aXo aX oo)) (hm : Met l yX1_pick wsX1_pick rmM (va_Pc [.ref (aM 0)] (rM G aM CM T K D w th)) (wr_Q G vwCl (some (.int bv)) (wM aM CM T2 K3 D3 w2 k) (aX5 aM)) 0 0 (aX5 aM)) (hres : k = 0 → f2 0 = bv.toInt64) (cont : ∀ (H : Heap) (locs : List Loc) (ls : Array Slot), va_P G vwCl (wXo aX CX K2 D2 W2 O2 n2 oo Co f2) H → va_P G vwCl (wM aM CM T2 K3 D3 w2 k) H → va_S (fun q => s.heap.size ≤ q) s.heap H locs → lv_has ls 8 [(4, .int (nI (7 * t))), (0, .ref b), (1, .ref (aX 0)), (2, .ref (aM 0)), (3, .ref oo)] → W p l e room_1 s m #[Value.ref b] below meth c H locs (cells + 1) (slots + 6) Q (F0 m 1185 ls [])) : ∀ (H : Heap) (locs : List Loc) (ls : Array Slot), va_P G vwCl (wXo aX CX K D Wt O n oo Co f) H → va_P G vwCl (wM aM CM T K D w th) H → va_S (fun q => s.heap.size ≤ q) s.heap H locs → lv_has ls 8 [(4, .int (nI (7 * t))), (0, .ref b), (1, .ref (aX 0)), (2, .ref (aM 0)), (3, .ref oo)] → W p l e room_1 s m #[Value.ref b] below meth c H locs cells slots Q (F0 m 816 ls []) := by
  obtain ⟨⟨S, hr, hlk, hX, hbl, hL⟩, ⟨hKX, hKM, hZ, hNc⟩, hapX, hapM, hdis, hAX, hAM⟩ := h
  obtain ⟨hx, hb, hml, hown, hts⟩ := id S
  have hbA : ¬ (fun q => s.heap.size ≤ q) b := fun z => Nat.not_lt.mpr z hbl
  intro H locs ls hP hPM hS hl
  have hl : lv_has ls 8 [(4, .int (nI (7 * t))), (0, .ref b), (1, .ref (aX 0)), (2, .ref (aM 0)), (3, .ref oo)] := hl
  refine lv_aload_n hx hb dL_law_816 rfl (lv_at hl 2 rfl) ?_
  refine lv_aload_n hx hb dL_law_817 rfl (lv_at hl 4 rfl) ?_
  refine sw_call (n := 2) (As := [.ref (aX 0), .ref oo]) (rest := []) (hh := [(0, 8, 11, 19)]) S hw rfl rfl ⟨Nat.le_of_ble_eq_true rfl, Nat.le_of_ble_eq_true rfl⟩ (gdC tb_lw w_co_L_pick) (hts _ (tb_lw _ w_co_L_pick)) (hts _ (tb_lw _ w_st_L_pick)) (hts _ (tb_lw _ w_in_L)) (hts _ (tb_lw _ w_ml_L_98)) (by decide +kernel) (preXo hP hKX hZ hNc hS) rfl hl.1 rfl (lv_room (Nat.le_of_ble_eq_true rfl)) dL_law_818 ⟨by show cells + 1 ≤ 1047; omega, by show slots + 6 ≤ 9875; omega⟩ hS hAX (fun H locs hP hS _ hfr => ?_)
  have hPM := keepM hPM hfr (fun i hi z => hdis _ z ⟨i, hi, rfl⟩)
  refine W.eq (g2 := F0 m 821 ls [.int k]) rfl ?_
  refine lv_istore hx hb dL_law_821 hl (by decide) rfl (fun ls hl => ?_)
  have hl : lv_has ls 8 [(5, .int k), (4, .int (nI (7 * t))), (0, .ref b), (1, .ref (aX 0)), (2, .ref (aM 0)), (3, .ref oo)] := hl
  refine lv_aload_n hx hb dL_law_823 rfl (lv_at hl 4 rfl) ?_
  refine wr_call (W.runV (As := []) (rest := []) S hm (cwV 0 hts (gL_101 tb_lw) rfl hrm.1 hrm.2.1 (by decide +kernel) ⟨by have := hrm.2.2.1; show rmM.frames + 1 ≤ 11; omega, by have := hrm.2.2.2; show 8 + (3 + 11) + rmM.locals ≤ 394; omega⟩) (pM_V hPM hKM) rfl rfl hl.1 rfl (lv_room (Nat.le_of_ble_eq_true rfl)) dL_law_824 ⟨by show cells + 1 + 0 ≤ 1047; omega, by show slots + 6 + 0 ≤ 9875; omega⟩) hS hAM (fun H locs hPM hS _ hfr => ?_)
  have hP := keepX6 hP hfr hdis
  refine W.eq (g2 := F0 m 827 ls [.int bv]) rfl ?_
  refine lv_istore hx hb dL_law_827 hl (by decide) rfl (fun ls hl => ?_)
  have hl : lv_has ls 8 [(6, .int bv), (5, .int k), (4, .int (nI (7 * t))), (0, .ref b), (1, .ref (aX 0)), (2, .ref (aM 0)), (3, .ref oo)] := hl
  refine lv_aload_n hx hb dL_law_829 rfl (lv_at hl 5 rfl) ?_
  refine rd_call (W.runV (As := []) (rest := []) S (cm_thrown l G aM CM T2 K3 D3 w2 k) (cwV 0 hts (gL_70 tb_lw) rfl rfl rfl (by decide +kernel) ⟨Nat.le_of_ble_eq_true rfl, Nat.le_of_ble_eq_true rfl⟩) (pM_V hPM hKM) rfl rfl hl.1 rfl (lv_room (Nat.le_of_ble_eq_true rfl)) dL_law_830 ⟨by show cells + 1 + 0 ≤ 1047; omega, by show slots + 6 + 0 ≤ 9875; omega⟩) ?_
  refine lv_iload hx hb dL_law_833 (lv_at hl 1 rfl) ?_
  refine lv_icmp_eq (tgt := 840) hx hb dL_law_835 (by decide) (fun _ => ?_) (fun hc => absurd (rfl) hc)
  refine lv_iload hx hb dL_law_840 (lv_at hl 1 rfl) ?_
  by_cases hk : k = 0
  · refine lv_if_ne (tgt := 857) hx hb dL_law_842 (by decide) (fun hc => absurd (hk) hc) (fun _ => ?_)
    refine lv_aload_n hx hb dL_law_845 rfl (lv_at hl 6 rfl) ?_
    refine lv_iconst (v := 0) hx hb dL_law_846 (by decide) ?_
    refine q_lald hx hb hKX hP 5 4 rfl rfl 0 rfl (by decide) (by decide) dL_law_847 ?_
    refine lv_iload hx hb dL_law_848 (lv_at hl 0 rfl) ?_
    refine lv_i2l hx hb dL_law_850 rfl ?_
    refine W.lcmp hx hb dL_law_851 ?_
    refine lv_if_eq (tgt := 857) hx hb dL_law_852 (by decide) (fun _ => ?_) (fun hc => absurd ((lg_cmp_eq _ _).mpr (hres hk)) hc)
    refine lv_goto (tgt := 1185) hx hb dL_law_857 (by decide) ?_
    exact cont H locs ls hP hPM hS (lv_sub hl [2, 3, 4, 5, 6] rfl)
  · refine lv_if_ne (tgt := 857) hx hb dL_law_842 (by decide) (fun _ => ?_) (fun hc => absurd hc (hk))
    refine lv_goto (tgt := 1185) hx hb dL_law_857 (by decide) ?_
    exact cont H locs ls hP hPM hS (lv_sub hl [2, 3, 4, 5, 6] rfl)
set_option maxHeartbeats 4000000 in
set_option maxRecDepth 100000 in
theorem op_ahead {p : Program} {l : Launch} {e : Env} {s : State} {m : MethodId} {below : List Frame} {meth : Method} {c : Code} {b L : Nat} {xs : Nat → Int32} {G : va_G} {aX : Nat → Nat} {CX : Nat → ClassId} {aM : Nat → Nat} {CM : Nat → ClassId} {oo : Nat} {Co : ClassId} (h : LC p s m meth c b L xs G aX CX aM CM oo Co) {Q : State → Prop} {cells slots : Nat} (hcs : cells + 1 ≤ 1047) (hss : slots + 6 ≤ 9875) {t : Nat} (ht : 7 * t + 7 ≤ L) {K D K2 D2 K3 D3 : Nat → Int64} {Wt O W2 O2 : Nat → Int32} {n n2 : Int32} {f f2 : Nat → Int64} {T T2 : Nat → Bool} {w w2 : Nat → Int32} {th k : Int32} {rmM : Room} (hrm : rmM.cells = 0 ∧ rmM.slots = 0 ∧ rmM.frames ≤ 2 ∧ rmM.locals ≤ 60) {x0 : Int32} (hx0 : xs (7 * t + 1) = x0) {bv : Int64} (hw : Met l yL_ahead wsL_ahead { frames := 8, cells := 1, slots := 6, locals := 150 } (va_Pc [.ref (aX 0), .int x0, .ref oo] (bXo G aX CX K D Wt O n oo Co f)) (wr_Q G vwCl (some (.int k)) (wXo aX CX K2 D2 W2 O2 n2 oo Co f2) (aXo aX oo)) 1 6 (aXo aX oo)) (hm : Met l yX1_ahead wsX1_ahead rmM (va_Pc [.ref (aM 0), .int x0] (rM G aM CM T K D w th)) (wr_Q G vwCl (some (.long bv)) (wM aM CM T2 K3 D3 w2 k) (aX5 aM)) 0 0 (aX5 aM)) (hres : k = 0 → f2 0 = bv) (cont : ∀ (H : Heap) (locs : List Loc) (ls : Array Slot), va_P G vwCl (wXo aX CX K2 D2 W2 O2 n2 oo Co f2) H → va_P G vwCl (wM aM CM T2 K3 D3 w2 k) H → va_S (fun q => s.heap.size ≤ q) s.heap H locs → lv_has ls 8 [(4, .int (nI (7 * t))), (0, .ref b), (1, .ref (aX 0)), (2, .ref (aM 0)), (3, .ref oo)] → W p l e room_1 s m #[Value.ref b] below meth c H locs (cells + 1) (slots + 6) Q (F0 m 1185 ls [])) : ∀ (H : Heap) (locs : List Loc) (ls : Array Slot), va_P G vwCl (wXo aX CX K D Wt O n oo Co f) H → va_P G vwCl (wM aM CM T K D w th) H → va_S (fun q => s.heap.size ≤ q) s.heap H locs → lv_has ls 8 [(4, .int (nI (7 * t))), (0, .ref b), (1, .ref (aX 0)), (2, .ref (aM 0)), (3, .ref oo)] → W p l e room_1 s m #[Value.ref b] below meth c H locs cells slots Q (F0 m 860 ls []) := by
  subst hx0
  obtain ⟨⟨S, hr, hlk, hX, hbl, hL⟩, ⟨hKX, hKM, hZ, hNc⟩, hapX, hapM, hdis, hAX, hAM⟩ := h
  obtain ⟨hx, hb, hml, hown, hts⟩ := id S
  have hbA : ¬ (fun q => s.heap.size ≤ q) b := fun z => Nat.not_lt.mpr z hbl
  intro H locs ls hP hPM hS hl
  have hl : lv_has ls 8 [(4, .int (nI (7 * t))), (0, .ref b), (1, .ref (aX 0)), (2, .ref (aM 0)), (3, .ref oo)] := hl
  refine lv_aload_n hx hb dL_law_860 rfl (lv_at hl 2 rfl) ?_
  refine lv_aload_n hx hb dL_law_861 rfl (lv_at hl 1 rfl) ?_
  refine lv_iload hx hb dL_law_862 (lv_at hl 0 rfl) ?_
  refine lv_iconst (v := 1) hx hb dL_law_864 (by decide) ?_
  refine lv_iadd hx hb dL_law_865 ?_
  refine q_topi (y := nI (7 * t + 1)) (nI_add (7 * t) 1) ?_
  refine q_sld hx hb hX hbl hbA hS (7 * t + 1) rfl (by omega) (by omega) dL_law_866 ?_
  refine lv_aload_n hx hb dL_law_867 rfl (lv_at hl 4 rfl) ?_
  refine sw_call (n := 3) (As := [.ref (aX 0), .int (xs (7 * t + 1)), .ref oo]) (rest := []) (hh := [(0, 8, 11, 19)]) S hw rfl rfl ⟨Nat.le_of_ble_eq_true rfl, Nat.le_of_ble_eq_true rfl⟩ (gdC tb_lw w_co_L_ahead) (hts _ (tb_lw _ w_co_L_ahead)) (hts _ (tb_lw _ w_st_L_ahead)) (hts _ (tb_lw _ w_in_L)) (hts _ (tb_lw _ w_ml_L_102)) (by decide +kernel) (preXo hP hKX hZ hNc hS) rfl hl.1 rfl (lv_room (Nat.le_of_ble_eq_true rfl)) dL_law_868 ⟨by show cells + 1 ≤ 1047; omega, by show slots + 6 ≤ 9875; omega⟩ hS hAX (fun H locs hP hS _ hfr => ?_)
  have hPM := keepM hPM hfr (fun i hi z => hdis _ z ⟨i, hi, rfl⟩)
  refine W.eq (g2 := F0 m 871 ls [.int k]) rfl ?_
  refine lv_istore hx hb dL_law_871 hl (by decide) rfl (fun ls hl => ?_)
  have hl : lv_has ls 8 [(5, .int k), (4, .int (nI (7 * t))), (0, .ref b), (1, .ref (aX 0)), (2, .ref (aM 0)), (3, .ref oo)] := hl
  refine lv_aload_n hx hb dL_law_873 rfl (lv_at hl 4 rfl) ?_
  refine lv_aload_n hx hb dL_law_874 rfl (lv_at hl 2 rfl) ?_
  refine lv_iload hx hb dL_law_875 (lv_at hl 1 rfl) ?_
  refine lv_iconst (v := 1) hx hb dL_law_877 (by decide) ?_
  refine lv_iadd hx hb dL_law_878 ?_
  refine q_topi (y := nI (7 * t + 1)) (nI_add (7 * t) 1) ?_
  refine q_sld hx hb hX hbl hbA hS (7 * t + 1) rfl (by omega) (by omega) dL_law_879 ?_
  refine wr_call (W.runV (As := [.int (xs (7 * t + 1))]) (rest := []) S hm (cwV 1 hts (gL_104 tb_lw) rfl hrm.1 hrm.2.1 (by decide +kernel) ⟨by have := hrm.2.2.1; show rmM.frames + 1 ≤ 11; omega, by have := hrm.2.2.2; show 8 + (2 + 11) + rmM.locals ≤ 394; omega⟩) (pM_V hPM hKM) rfl rfl hl.1 rfl (lv_room (Nat.le_of_ble_eq_true rfl)) dL_law_880 ⟨by show cells + 1 + 0 ≤ 1047; omega, by show slots + 6 + 0 ≤ 9875; omega⟩) hS hAM (fun H locs hPM hS _ hfr => ?_)
  have hP := keepX6 hP hfr hdis
  refine W.eq (g2 := F0 m 883 ls [.long bv]) rfl ?_
  refine lv_lstore hx hb dL_law_883 hl (by decide) rfl (fun ls hl => ?_)
  have hl : lv_has ls 8 [(6, .long bv), (5, .int k), (4, .int (nI (7 * t))), (0, .ref b), (1, .ref (aX 0)), (2, .ref (aM 0)), (3, .ref oo)] := hl
  refine lv_aload_n hx hb dL_law_885 rfl (lv_at hl 5 rfl) ?_
  refine rd_call (W.runV (As := []) (rest := []) S (cm_thrown l G aM CM T2 K3 D3 w2 k) (cwV 0 hts (gL_70 tb_lw) rfl rfl rfl (by decide +kernel) ⟨Nat.le_of_ble_eq_true rfl, Nat.le_of_ble_eq_true rfl⟩) (pM_V hPM hKM) rfl rfl hl.1 rfl (lv_room (Nat.le_of_ble_eq_true rfl)) dL_law_886 ⟨by show cells + 1 + 0 ≤ 1047; omega, by show slots + 6 + 0 ≤ 9875; omega⟩) ?_
  refine lv_iload hx hb dL_law_889 (lv_at hl 1 rfl) ?_
  refine lv_icmp_eq (tgt := 896) hx hb dL_law_891 (by decide) (fun _ => ?_) (fun hc => absurd (rfl) hc)
  refine lv_iload hx hb dL_law_896 (lv_at hl 1 rfl) ?_
  by_cases hk : k = 0
  · refine lv_if_ne (tgt := 912) hx hb dL_law_898 (by decide) (fun hc => absurd (hk) hc) (fun _ => ?_)
    refine lv_aload_n hx hb dL_law_901 rfl (lv_at hl 6 rfl) ?_
    refine lv_iconst (v := 0) hx hb dL_law_902 (by decide) ?_
    refine q_lald hx hb hKX hP 5 4 rfl rfl 0 rfl (by decide) (by decide) dL_law_903 ?_
    refine lv_lload hx hb dL_law_904 (lv_at hl 0 rfl) ?_
    refine W.lcmp hx hb dL_law_906 ?_
    refine lv_if_eq (tgt := 912) hx hb dL_law_907 (by decide) (fun _ => ?_) (fun hc => absurd ((lg_cmp_eq _ _).mpr (hres hk)) hc)
    refine lv_goto (tgt := 1185) hx hb dL_law_912 (by decide) ?_
    exact cont H locs ls hP hPM hS (lv_sub hl [2, 3, 4, 5, 6] rfl)
  · refine lv_if_ne (tgt := 912) hx hb dL_law_898 (by decide) (fun _ => ?_) (fun hc => absurd hc (hk))
    refine lv_goto (tgt := 1185) hx hb dL_law_912 (by decide) ?_
    exact cont H locs ls hP hPM hS (lv_sub hl [2, 3, 4, 5, 6] rfl)
set_option maxHeartbeats 4000000 in
set_option maxRecDepth 100000 in
theorem op_half {p : Program} {l : Launch} {e : Env} {s : State} {m : MethodId} {below : List Frame} {meth : Method} {c : Code} {b L : Nat} {xs : Nat → Int32} {G : va_G} {aX : Nat → Nat} {CX : Nat → ClassId} {aM : Nat → Nat} {CM : Nat → ClassId} {oo : Nat} {Co : ClassId} (h : LC p s m meth c b L xs G aX CX aM CM oo Co) {Q : State → Prop} {cells slots : Nat} (hcs : cells + 1 ≤ 1047) (hss : slots + 6 ≤ 9875) {t : Nat} (ht : 7 * t + 7 ≤ L) {K D K2 D2 K3 D3 : Nat → Int64} {Wt O W2 O2 : Nat → Int32} {n n2 : Int32} {f f2 : Nat → Int64} {T T2 : Nat → Bool} {w w2 : Nat → Int32} {th k : Int32} {rmM : Room} (hrm : rmM.cells = 0 ∧ rmM.slots = 0 ∧ rmM.frames ≤ 2 ∧ rmM.locals ≤ 60)  {bv : Int32} (hw : Met l yL_half wsL_half { frames := 8, cells := 1, slots := 6, locals := 150 } (va_Pc [.ref (aX 0), .ref oo] (bXo G aX CX K D Wt O n oo Co f)) (wr_Q G vwCl (some (.int k)) (wXo aX CX K2 D2 W2 O2 n2 oo Co f2) (aXo aX oo)) 1 6 (aXo aX oo)) (hm : Met l yX1_half wsX1_half rmM (va_Pc [.ref (aM 0)] (rM G aM CM T K D w th)) (wr_Q G vwCl (some (.int bv)) (wM aM CM T2 K3 D3 w2 k) (aX5 aM)) 0 0 (aX5 aM)) (hres : k = 0 → f2 0 = bv.toInt64) (cont : ∀ (H : Heap) (locs : List Loc) (ls : Array Slot), va_P G vwCl (wXo aX CX K2 D2 W2 O2 n2 oo Co f2) H → va_P G vwCl (wM aM CM T2 K3 D3 w2 k) H → va_S (fun q => s.heap.size ≤ q) s.heap H locs → lv_has ls 8 [(4, .int (nI (7 * t))), (0, .ref b), (1, .ref (aX 0)), (2, .ref (aM 0)), (3, .ref oo)] → W p l e room_1 s m #[Value.ref b] below meth c H locs (cells + 1) (slots + 6) Q (F0 m 1185 ls [])) : ∀ (H : Heap) (locs : List Loc) (ls : Array Slot), va_P G vwCl (wXo aX CX K D Wt O n oo Co f) H → va_P G vwCl (wM aM CM T K D w th) H → va_S (fun q => s.heap.size ≤ q) s.heap H locs → lv_has ls 8 [(4, .int (nI (7 * t))), (0, .ref b), (1, .ref (aX 0)), (2, .ref (aM 0)), (3, .ref oo)] → W p l e room_1 s m #[Value.ref b] below meth c H locs cells slots Q (F0 m 972 ls []) := by
  obtain ⟨⟨S, hr, hlk, hX, hbl, hL⟩, ⟨hKX, hKM, hZ, hNc⟩, hapX, hapM, hdis, hAX, hAM⟩ := h
  obtain ⟨hx, hb, hml, hown, hts⟩ := id S
  have hbA : ¬ (fun q => s.heap.size ≤ q) b := fun z => Nat.not_lt.mpr z hbl
  intro H locs ls hP hPM hS hl
  have hl : lv_has ls 8 [(4, .int (nI (7 * t))), (0, .ref b), (1, .ref (aX 0)), (2, .ref (aM 0)), (3, .ref oo)] := hl
  refine lv_aload_n hx hb dL_law_972 rfl (lv_at hl 2 rfl) ?_
  refine lv_aload_n hx hb dL_law_973 rfl (lv_at hl 4 rfl) ?_
  refine sw_call (n := 2) (As := [.ref (aX 0), .ref oo]) (rest := []) (hh := [(0, 8, 11, 19)]) S hw rfl rfl ⟨Nat.le_of_ble_eq_true rfl, Nat.le_of_ble_eq_true rfl⟩ (gdC tb_lw w_co_L_half) (hts _ (tb_lw _ w_co_L_half)) (hts _ (tb_lw _ w_st_L_half)) (hts _ (tb_lw _ w_in_L)) (hts _ (tb_lw _ w_ml_L_109)) (by decide +kernel) (preXo hP hKX hZ hNc hS) rfl hl.1 rfl (lv_room (Nat.le_of_ble_eq_true rfl)) dL_law_974 ⟨by show cells + 1 ≤ 1047; omega, by show slots + 6 ≤ 9875; omega⟩ hS hAX (fun H locs hP hS _ hfr => ?_)
  have hPM := keepM hPM hfr (fun i hi z => hdis _ z ⟨i, hi, rfl⟩)
  refine W.eq (g2 := F0 m 977 ls [.int k]) rfl ?_
  refine lv_istore hx hb dL_law_977 hl (by decide) rfl (fun ls hl => ?_)
  have hl : lv_has ls 8 [(5, .int k), (4, .int (nI (7 * t))), (0, .ref b), (1, .ref (aX 0)), (2, .ref (aM 0)), (3, .ref oo)] := hl
  refine lv_aload_n hx hb dL_law_979 rfl (lv_at hl 4 rfl) ?_
  refine wr_call (W.runV (As := []) (rest := []) S hm (cwV 0 hts (gL_111 tb_lw) rfl hrm.1 hrm.2.1 (by decide +kernel) ⟨by have := hrm.2.2.1; show rmM.frames + 1 ≤ 11; omega, by have := hrm.2.2.2; show 8 + (6 + 11) + rmM.locals ≤ 394; omega⟩) (pM_V hPM hKM) rfl rfl hl.1 rfl (lv_room (Nat.le_of_ble_eq_true rfl)) dL_law_980 ⟨by show cells + 1 + 0 ≤ 1047; omega, by show slots + 6 + 0 ≤ 9875; omega⟩) hS hAM (fun H locs hPM hS _ hfr => ?_)
  have hP := keepX6 hP hfr hdis
  refine W.eq (g2 := F0 m 983 ls [.int bv]) rfl ?_
  refine lv_istore hx hb dL_law_983 hl (by decide) rfl (fun ls hl => ?_)
  have hl : lv_has ls 8 [(6, .int bv), (5, .int k), (4, .int (nI (7 * t))), (0, .ref b), (1, .ref (aX 0)), (2, .ref (aM 0)), (3, .ref oo)] := hl
  refine lv_aload_n hx hb dL_law_985 rfl (lv_at hl 5 rfl) ?_
  refine rd_call (W.runV (As := []) (rest := []) S (cm_thrown l G aM CM T2 K3 D3 w2 k) (cwV 0 hts (gL_70 tb_lw) rfl rfl rfl (by decide +kernel) ⟨Nat.le_of_ble_eq_true rfl, Nat.le_of_ble_eq_true rfl⟩) (pM_V hPM hKM) rfl rfl hl.1 rfl (lv_room (Nat.le_of_ble_eq_true rfl)) dL_law_986 ⟨by show cells + 1 + 0 ≤ 1047; omega, by show slots + 6 + 0 ≤ 9875; omega⟩) ?_
  refine lv_iload hx hb dL_law_989 (lv_at hl 1 rfl) ?_
  refine lv_icmp_eq (tgt := 996) hx hb dL_law_991 (by decide) (fun _ => ?_) (fun hc => absurd (rfl) hc)
  refine lv_iload hx hb dL_law_996 (lv_at hl 1 rfl) ?_
  by_cases hk : k = 0
  · refine lv_if_ne (tgt := 1013) hx hb dL_law_998 (by decide) (fun hc => absurd (hk) hc) (fun _ => ?_)
    refine lv_aload_n hx hb dL_law_1001 rfl (lv_at hl 6 rfl) ?_
    refine lv_iconst (v := 0) hx hb dL_law_1002 (by decide) ?_
    refine q_lald hx hb hKX hP 5 4 rfl rfl 0 rfl (by decide) (by decide) dL_law_1003 ?_
    refine lv_iload hx hb dL_law_1004 (lv_at hl 0 rfl) ?_
    refine lv_i2l hx hb dL_law_1006 rfl ?_
    refine W.lcmp hx hb dL_law_1007 ?_
    refine lv_if_eq (tgt := 1013) hx hb dL_law_1008 (by decide) (fun _ => ?_) (fun hc => absurd ((lg_cmp_eq _ _).mpr (hres hk)) hc)
    refine lv_goto (tgt := 1185) hx hb dL_law_1013 (by decide) ?_
    exact cont H locs ls hP hPM hS (lv_sub hl [2, 3, 4, 5, 6] rfl)
  · refine lv_if_ne (tgt := 1013) hx hb dL_law_998 (by decide) (fun _ => ?_) (fun hc => absurd hc (hk))
    refine lv_goto (tgt := 1185) hx hb dL_law_1013 (by decide) ?_
    exact cont H locs ls hP hPM hS (lv_sub hl [2, 3, 4, 5, 6] rfl)
set_option maxHeartbeats 4000000 in
set_option maxRecDepth 100000 in
theorem op_nearest {p : Program} {l : Launch} {e : Env} {s : State} {m : MethodId} {below : List Frame} {meth : Method} {c : Code} {b L : Nat} {xs : Nat → Int32} {G : va_G} {aX : Nat → Nat} {CX : Nat → ClassId} {aM : Nat → Nat} {CM : Nat → ClassId} {oo : Nat} {Co : ClassId} (h : LC p s m meth c b L xs G aX CX aM CM oo Co) {Q : State → Prop} {cells slots : Nat} (hcs : cells + 1 ≤ 1047) (hss : slots + 6 ≤ 9875) {t : Nat} (ht : 7 * t + 7 ≤ L) {K D K2 D2 K3 D3 : Nat → Int64} {Wt O W2 O2 : Nat → Int32} {n n2 : Int32} {f f2 : Nat → Int64} {T T2 : Nat → Bool} {w w2 : Nat → Int32} {th k : Int32} {rmM : Room} (hrm : rmM.cells = 0 ∧ rmM.slots = 0 ∧ rmM.frames ≤ 2 ∧ rmM.locals ≤ 60)  {bv : Int64} (hw : Met l yL_nearest wsL_nearest { frames := 8, cells := 1, slots := 6, locals := 150 } (va_Pc [.ref (aX 0), .ref oo] (bXo G aX CX K D Wt O n oo Co f)) (wr_Q G vwCl (some (.int k)) (wXo aX CX K2 D2 W2 O2 n2 oo Co f2) (aXo aX oo)) 1 6 (aXo aX oo)) (hm : Met l yX1_nearest wsX1_nearest rmM (va_Pc [.ref (aM 0)] (rM G aM CM T K D w th)) (wr_Q G vwCl (some (.long bv)) (wM aM CM T2 K3 D3 w2 k) (aX5 aM)) 0 0 (aX5 aM)) (hres : k = 0 → f2 0 = bv) (cont : ∀ (H : Heap) (locs : List Loc) (ls : Array Slot), va_P G vwCl (wXo aX CX K2 D2 W2 O2 n2 oo Co f2) H → va_P G vwCl (wM aM CM T2 K3 D3 w2 k) H → va_S (fun q => s.heap.size ≤ q) s.heap H locs → lv_has ls 8 [(4, .int (nI (7 * t))), (0, .ref b), (1, .ref (aX 0)), (2, .ref (aM 0)), (3, .ref oo)] → W p l e room_1 s m #[Value.ref b] below meth c H locs (cells + 1) (slots + 6) Q (F0 m 1185 ls [])) : ∀ (H : Heap) (locs : List Loc) (ls : Array Slot), va_P G vwCl (wXo aX CX K D Wt O n oo Co f) H → va_P G vwCl (wM aM CM T K D w th) H → va_S (fun q => s.heap.size ≤ q) s.heap H locs → lv_has ls 8 [(4, .int (nI (7 * t))), (0, .ref b), (1, .ref (aX 0)), (2, .ref (aM 0)), (3, .ref oo)] → W p l e room_1 s m #[Value.ref b] below meth c H locs cells slots Q (F0 m 1016 ls []) := by
  obtain ⟨⟨S, hr, hlk, hX, hbl, hL⟩, ⟨hKX, hKM, hZ, hNc⟩, hapX, hapM, hdis, hAX, hAM⟩ := h
  obtain ⟨hx, hb, hml, hown, hts⟩ := id S
  have hbA : ¬ (fun q => s.heap.size ≤ q) b := fun z => Nat.not_lt.mpr z hbl
  intro H locs ls hP hPM hS hl
  have hl : lv_has ls 8 [(4, .int (nI (7 * t))), (0, .ref b), (1, .ref (aX 0)), (2, .ref (aM 0)), (3, .ref oo)] := hl
  refine lv_aload_n hx hb dL_law_1016 rfl (lv_at hl 2 rfl) ?_
  refine lv_aload_n hx hb dL_law_1017 rfl (lv_at hl 4 rfl) ?_
  refine sw_call (n := 2) (As := [.ref (aX 0), .ref oo]) (rest := []) (hh := [(0, 7, 10, 19)]) S hw rfl rfl ⟨Nat.le_of_ble_eq_true rfl, Nat.le_of_ble_eq_true rfl⟩ (gdC tb_lw w_co_L_nearest) (hts _ (tb_lw _ w_co_L_nearest)) (hts _ (tb_lw _ w_st_L_nearest)) (hts _ (tb_lw _ w_in_L)) (hts _ (tb_lw _ w_ml_L_112)) (by decide +kernel) (preXo hP hKX hZ hNc hS) rfl hl.1 rfl (lv_room (Nat.le_of_ble_eq_true rfl)) dL_law_1018 ⟨by show cells + 1 ≤ 1047; omega, by show slots + 6 ≤ 9875; omega⟩ hS hAX (fun H locs hP hS _ hfr => ?_)
  have hPM := keepM hPM hfr (fun i hi z => hdis _ z ⟨i, hi, rfl⟩)
  refine W.eq (g2 := F0 m 1021 ls [.int k]) rfl ?_
  refine lv_istore hx hb dL_law_1021 hl (by decide) rfl (fun ls hl => ?_)
  have hl : lv_has ls 8 [(5, .int k), (4, .int (nI (7 * t))), (0, .ref b), (1, .ref (aX 0)), (2, .ref (aM 0)), (3, .ref oo)] := hl
  refine lv_aload_n hx hb dL_law_1023 rfl (lv_at hl 4 rfl) ?_
  refine wr_call (W.runV (As := []) (rest := []) S hm (cwV 0 hts (gL_114 tb_lw) rfl hrm.1 hrm.2.1 (by decide +kernel) ⟨by have := hrm.2.2.1; show rmM.frames + 1 ≤ 11; omega, by have := hrm.2.2.2; show 8 + (5 + 11) + rmM.locals ≤ 394; omega⟩) (pM_V hPM hKM) rfl rfl hl.1 rfl (lv_room (Nat.le_of_ble_eq_true rfl)) dL_law_1024 ⟨by show cells + 1 + 0 ≤ 1047; omega, by show slots + 6 + 0 ≤ 9875; omega⟩) hS hAM (fun H locs hPM hS _ hfr => ?_)
  have hP := keepX6 hP hfr hdis
  refine W.eq (g2 := F0 m 1027 ls [.long bv]) rfl ?_
  refine lv_lstore hx hb dL_law_1027 hl (by decide) rfl (fun ls hl => ?_)
  have hl : lv_has ls 8 [(6, .long bv), (5, .int k), (4, .int (nI (7 * t))), (0, .ref b), (1, .ref (aX 0)), (2, .ref (aM 0)), (3, .ref oo)] := hl
  refine lv_aload_n hx hb dL_law_1029 rfl (lv_at hl 5 rfl) ?_
  refine rd_call (W.runV (As := []) (rest := []) S (cm_thrown l G aM CM T2 K3 D3 w2 k) (cwV 0 hts (gL_70 tb_lw) rfl rfl rfl (by decide +kernel) ⟨Nat.le_of_ble_eq_true rfl, Nat.le_of_ble_eq_true rfl⟩) (pM_V hPM hKM) rfl rfl hl.1 rfl (lv_room (Nat.le_of_ble_eq_true rfl)) dL_law_1030 ⟨by show cells + 1 + 0 ≤ 1047; omega, by show slots + 6 + 0 ≤ 9875; omega⟩) ?_
  refine lv_iload hx hb dL_law_1033 (lv_at hl 1 rfl) ?_
  refine lv_icmp_eq (tgt := 1040) hx hb dL_law_1035 (by decide) (fun _ => ?_) (fun hc => absurd (rfl) hc)
  refine lv_iload hx hb dL_law_1040 (lv_at hl 1 rfl) ?_
  by_cases hk : k = 0
  · refine lv_if_ne (tgt := 1056) hx hb dL_law_1042 (by decide) (fun hc => absurd (hk) hc) (fun _ => ?_)
    refine lv_aload_n hx hb dL_law_1045 rfl (lv_at hl 6 rfl) ?_
    refine lv_iconst (v := 0) hx hb dL_law_1046 (by decide) ?_
    refine q_lald hx hb hKX hP 5 4 rfl rfl 0 rfl (by decide) (by decide) dL_law_1047 ?_
    refine lv_lload hx hb dL_law_1048 (lv_at hl 0 rfl) ?_
    refine W.lcmp hx hb dL_law_1050 ?_
    refine lv_if_eq (tgt := 1056) hx hb dL_law_1051 (by decide) (fun _ => ?_) (fun hc => absurd ((lg_cmp_eq _ _).mpr (hres hk)) hc)
    refine lv_goto (tgt := 1185) hx hb dL_law_1056 (by decide) ?_
    exact cont H locs ls hP hPM hS (lv_sub hl [2, 3, 4, 5, 6] rfl)
  · refine lv_if_ne (tgt := 1056) hx hb dL_law_1042 (by decide) (fun _ => ?_) (fun hc => absurd hc (hk))
    refine lv_goto (tgt := 1185) hx hb dL_law_1056 (by decide) ?_
    exact cont H locs ls hP hPM hS (lv_sub hl [2, 3, 4, 5, 6] rfl)
set_option maxHeartbeats 4000000 in
set_option maxRecDepth 100000 in
theorem op_weight {p : Program} {l : Launch} {e : Env} {s : State} {m : MethodId} {below : List Frame} {meth : Method} {c : Code} {b L : Nat} {xs : Nat → Int32} {G : va_G} {aX : Nat → Nat} {CX : Nat → ClassId} {aM : Nat → Nat} {CM : Nat → ClassId} {oo : Nat} {Co : ClassId} (h : LC p s m meth c b L xs G aX CX aM CM oo Co) {Q : State → Prop} {cells slots : Nat} (hcs : cells + 1 ≤ 1047) (hss : slots + 6 ≤ 9875) {t : Nat} (ht : 7 * t + 7 ≤ L) {K D : Nat → Int64} {Wt O : Nat → Int32} {n : Int32} {f : Nat → Int64} {T : Nat → Bool} {w : Nat → Int32} {th k : Int32} {rmM : Room} (hrm : rmM.cells = 0 ∧ rmM.slots = 0 ∧ rmM.frames ≤ 2 ∧ rmM.locals ≤ 60) {x0 : Int64} (hx0 : ft_lg (xs (7 * t + 1)) (xs (7 * t + 2)) = x0) (hv : Met l yX0_weight wsX0_weight { frames := 3, cells := 0, slots := 0, locals := 90 } (va_Pc [.ref (aX 0), .long x0] (rX G aX CX K D Wt O n)) (rd_Q (.int k)) 0 0 (fun _ => False)) (hm : Met l yX1_weight wsX1_weight rmM (va_Pc [.ref (aM 0), .long x0] (rM G aM CM T K D w th)) (wr_Q G vwCl (some (.int k)) (wM aM CM T K D w 0) (aX5 aM)) 0 0 (aX5 aM)) (cont : ∀ (H : Heap) (locs : List Loc) (ls : Array Slot), va_P G vwCl (wXo aX CX K D Wt O n oo Co f) H → va_P G vwCl (wM aM CM T K D w 0) H → va_S (fun q => s.heap.size ≤ q) s.heap H locs → lv_has ls 8 [(4, .int (nI (7 * t))), (0, .ref b), (1, .ref (aX 0)), (2, .ref (aM 0)), (3, .ref oo)] → W p l e room_1 s m #[Value.ref b] below meth c H locs cells slots Q (F0 m 1185 ls [])) : ∀ (H : Heap) (locs : List Loc) (ls : Array Slot), va_P G vwCl (wXo aX CX K D Wt O n oo Co f) H → va_P G vwCl (wM aM CM T K D w th) H → va_S (fun q => s.heap.size ≤ q) s.heap H locs → lv_has ls 8 [(4, .int (nI (7 * t))), (0, .ref b), (1, .ref (aX 0)), (2, .ref (aM 0)), (3, .ref oo)] → W p l e room_1 s m #[Value.ref b] below meth c H locs cells slots Q (F0 m 915 ls []) := by
  subst hx0
  obtain ⟨⟨S, hr, hlk, hX, hbl, hL⟩, ⟨hKX, hKM, hZ, hNc⟩, hapX, hapM, hdis, hAX, hAM⟩ := h
  obtain ⟨hx, hb, hml, hown, hts⟩ := id S
  have hbA : ¬ (fun q => s.heap.size ≤ q) b := fun z => Nat.not_lt.mpr z hbl
  intro H locs ls hP hPM hS hl
  have hl : lv_has ls 8 [(4, .int (nI (7 * t))), (0, .ref b), (1, .ref (aX 0)), (2, .ref (aM 0)), (3, .ref oo)] := hl
  refine lv_aload_n hx hb dL_law_915 rfl (lv_at hl 2 rfl) ?_
  refine lv_aload_n hx hb dL_law_916 rfl (lv_at hl 1 rfl) ?_
  refine lv_iload hx hb dL_law_917 (lv_at hl 0 rfl) ?_
  refine lv_iconst (v := 1) hx hb dL_law_919 (by decide) ?_
  refine lv_iadd hx hb dL_law_920 ?_
  refine q_topi (y := nI (7 * t + 1)) (nI_add (7 * t) 1) ?_
  refine q_sld hx hb hX hbl hbA hS (7 * t + 1) rfl (by omega) (by omega) dL_law_921 ?_
  refine lv_i2l hx hb dL_law_922 rfl ?_
  refine lv_bipush (v := 32) hx hb dL_law_923 (by decide) ?_
  refine lv_lshl hx hb dL_law_925 rfl ?_
  refine lv_aload_n hx hb dL_law_926 rfl (lv_at hl 1 rfl) ?_
  refine lv_iload hx hb dL_law_927 (lv_at hl 0 rfl) ?_
  refine lv_iconst (v := 2) hx hb dL_law_929 (by decide) ?_
  refine lv_iadd hx hb dL_law_930 ?_
  refine q_topi (y := nI (7 * t + 2)) (nI_add (7 * t) 2) ?_
  refine q_sld hx hb hX hbl hbA hS (7 * t + 2) rfl (by omega) (by omega) dL_law_931 ?_
  refine lv_i2l hx hb dL_law_932 rfl ?_
  refine lv_ldc2 (v := 4294967295) hx hb hown (hts _ (tb_lw _ w_k_L_62)) dL_law_933 ?_
  refine lv_land hx hb dL_law_936 ?_
  refine lv_lor hx hb dL_law_937 ?_
  refine q_topl (y := ft_lg (xs (7 * t + 1)) (xs (7 * t + 2))) rfl ?_
  refine rd_call (W.runV (As := [.long (ft_lg (xs (7 * t + 1)) (xs (7 * t + 2)))]) (rest := []) S hv (cwV 1 hts (gL_105 tb_lw) rfl rfl rfl (by decide +kernel) ⟨Nat.le_of_ble_eq_true rfl, Nat.le_of_ble_eq_true rfl⟩) (pX_V (hP.sub [0, 1, 2, 3, 4] rfl) (hKX.sub [0, 1, 2, 3] rfl)) rfl rfl hl.1 rfl (lv_room (Nat.le_of_ble_eq_true rfl)) dL_law_938 ⟨by show cells + 0 ≤ 1047; omega, by show slots + 0 ≤ 9875; omega⟩) ?_
  refine lv_aload_n hx hb dL_law_941 rfl (lv_at hl 3 rfl) ?_
  refine lv_aload_n hx hb dL_law_942 rfl (lv_at hl 1 rfl) ?_
  refine lv_iload hx hb dL_law_943 (lv_at hl 0 rfl) ?_
  refine lv_iconst (v := 1) hx hb dL_law_945 (by decide) ?_
  refine lv_iadd hx hb dL_law_946 ?_
  refine q_topi (y := nI (7 * t + 1)) (nI_add (7 * t) 1) ?_
  refine q_sld hx hb hX hbl hbA hS (7 * t + 1) rfl (by omega) (by omega) dL_law_947 ?_
  refine lv_i2l hx hb dL_law_948 rfl ?_
  refine lv_bipush (v := 32) hx hb dL_law_949 (by decide) ?_
  refine lv_lshl hx hb dL_law_951 rfl ?_
  refine lv_aload_n hx hb dL_law_952 rfl (lv_at hl 1 rfl) ?_
  refine lv_iload hx hb dL_law_953 (lv_at hl 0 rfl) ?_
  refine lv_iconst (v := 2) hx hb dL_law_955 (by decide) ?_
  refine lv_iadd hx hb dL_law_956 ?_
  refine q_topi (y := nI (7 * t + 2)) (nI_add (7 * t) 2) ?_
  refine q_sld hx hb hX hbl hbA hS (7 * t + 2) rfl (by omega) (by omega) dL_law_957 ?_
  refine lv_i2l hx hb dL_law_958 rfl ?_
  refine lv_ldc2 (v := 4294967295) hx hb hown (hts _ (tb_lw _ w_k_L_62)) dL_law_959 ?_
  refine lv_land hx hb dL_law_962 ?_
  refine lv_lor hx hb dL_law_963 ?_
  refine q_topl (y := ft_lg (xs (7 * t + 1)) (xs (7 * t + 2))) rfl ?_
  refine wr_call (W.runV (As := [.long (ft_lg (xs (7 * t + 1)) (xs (7 * t + 2)))]) (rest := [.int k]) S hm (cwV 1 hts (gL_108 tb_lw) rfl hrm.1 hrm.2.1 (by decide +kernel) ⟨by have := hrm.2.2.1; show rmM.frames + 1 ≤ 11; omega, by have := hrm.2.2.2; show 8 + (5 + 11) + rmM.locals ≤ 394; omega⟩) (pM_V hPM hKM) rfl rfl hl.1 rfl (lv_room (Nat.le_of_ble_eq_true rfl)) dL_law_964 ⟨by show cells + 0 ≤ 1047; omega, by show slots + 0 ≤ 9875; omega⟩) hS hAM (fun H locs hPM hS _ hfr => ?_)
  have hP := keepX6 hP hfr hdis
  refine W.eq (g2 := F0 m 967 ls [.int k, .int k]) rfl ?_
  refine lv_icmp_eq (tgt := 1185) hx hb dL_law_967 (by decide) (fun _ => ?_) (fun hc => absurd (rfl) hc)
  exact cont H locs ls hP hPM hS hl
set_option maxHeartbeats 4000000 in
set_option maxRecDepth 100000 in
theorem op_count {p : Program} {l : Launch} {e : Env} {s : State} {m : MethodId} {below : List Frame} {meth : Method} {c : Code} {b L : Nat} {xs : Nat → Int32} {G : va_G} {aX : Nat → Nat} {CX : Nat → ClassId} {aM : Nat → Nat} {CM : Nat → ClassId} {oo : Nat} {Co : ClassId} (h : LC p s m meth c b L xs G aX CX aM CM oo Co) {Q : State → Prop} {cells slots : Nat} (hcs : cells + 1 ≤ 1047) (hss : slots + 6 ≤ 9875) {t : Nat} (ht : 7 * t + 7 ≤ L) {K D : Nat → Int64} {Wt O : Nat → Int32} {n : Int32} {f : Nat → Int64} {T : Nat → Bool} {w : Nat → Int32} {th k : Int32} {rmM : Room} (hrm : rmM.cells = 0 ∧ rmM.slots = 0 ∧ rmM.frames ≤ 2 ∧ rmM.locals ≤ 60) {x0 : Int32} (hx0 : xs (7 * t + 1) = x0) (hv : Met l yX0_count wsX0_count { frames := 3, cells := 0, slots := 0, locals := 90 } (va_Pc [.ref (aX 0), .int x0] (rX G aX CX K D Wt O n)) (rd_Q (.int k)) 0 0 (fun _ => False)) (hm : Met l yX1_count wsX1_count rmM (va_Pc [.ref (aM 0), .int x0] (rM G aM CM T K D w th)) (wr_Q G vwCl (some (.int k)) (wM aM CM T K D w 0) (aX5 aM)) 0 0 (aX5 aM)) (cont : ∀ (H : Heap) (locs : List Loc) (ls : Array Slot), va_P G vwCl (wXo aX CX K D Wt O n oo Co f) H → va_P G vwCl (wM aM CM T K D w 0) H → va_S (fun q => s.heap.size ≤ q) s.heap H locs → lv_has ls 8 [(4, .int (nI (7 * t))), (0, .ref b), (1, .ref (aX 0)), (2, .ref (aM 0)), (3, .ref oo)] → W p l e room_1 s m #[Value.ref b] below meth c H locs cells slots Q (F0 m 1185 ls [])) : ∀ (H : Heap) (locs : List Loc) (ls : Array Slot), va_P G vwCl (wXo aX CX K D Wt O n oo Co f) H → va_P G vwCl (wM aM CM T K D w th) H → va_S (fun q => s.heap.size ≤ q) s.heap H locs → lv_has ls 8 [(4, .int (nI (7 * t))), (0, .ref b), (1, .ref (aX 0)), (2, .ref (aM 0)), (3, .ref oo)] → W p l e room_1 s m #[Value.ref b] below meth c H locs cells slots Q (F0 m 1160 ls []) := by
  subst hx0
  obtain ⟨⟨S, hr, hlk, hX, hbl, hL⟩, ⟨hKX, hKM, hZ, hNc⟩, hapX, hapM, hdis, hAX, hAM⟩ := h
  obtain ⟨hx, hb, hml, hown, hts⟩ := id S
  have hbA : ¬ (fun q => s.heap.size ≤ q) b := fun z => Nat.not_lt.mpr z hbl
  intro H locs ls hP hPM hS hl
  have hl : lv_has ls 8 [(4, .int (nI (7 * t))), (0, .ref b), (1, .ref (aX 0)), (2, .ref (aM 0)), (3, .ref oo)] := hl
  refine lv_aload_n hx hb dL_law_1160 rfl (lv_at hl 2 rfl) ?_
  refine lv_aload_n hx hb dL_law_1161 rfl (lv_at hl 1 rfl) ?_
  refine lv_iload hx hb dL_law_1162 (lv_at hl 0 rfl) ?_
  refine lv_iconst (v := 1) hx hb dL_law_1164 (by decide) ?_
  refine lv_iadd hx hb dL_law_1165 ?_
  refine q_topi (y := nI (7 * t + 1)) (nI_add (7 * t) 1) ?_
  refine q_sld hx hb hX hbl hbA hS (7 * t + 1) rfl (by omega) (by omega) dL_law_1166 ?_
  refine rd_call (W.runV (As := [.int (xs (7 * t + 1))]) (rest := []) S hv (cwV 1 hts (gL_119 tb_lw) rfl rfl rfl (by decide +kernel) ⟨Nat.le_of_ble_eq_true rfl, Nat.le_of_ble_eq_true rfl⟩) (pX_V (hP.sub [0, 1, 2, 3, 4] rfl) (hKX.sub [0, 1, 2, 3] rfl)) rfl rfl hl.1 rfl (lv_room (Nat.le_of_ble_eq_true rfl)) dL_law_1167 ⟨by show cells + 0 ≤ 1047; omega, by show slots + 0 ≤ 9875; omega⟩) ?_
  refine lv_aload_n hx hb dL_law_1170 rfl (lv_at hl 3 rfl) ?_
  refine lv_aload_n hx hb dL_law_1171 rfl (lv_at hl 1 rfl) ?_
  refine lv_iload hx hb dL_law_1172 (lv_at hl 0 rfl) ?_
  refine lv_iconst (v := 1) hx hb dL_law_1174 (by decide) ?_
  refine lv_iadd hx hb dL_law_1175 ?_
  refine q_topi (y := nI (7 * t + 1)) (nI_add (7 * t) 1) ?_
  refine q_sld hx hb hX hbl hbA hS (7 * t + 1) rfl (by omega) (by omega) dL_law_1176 ?_
  refine wr_call (W.runV (As := [.int (xs (7 * t + 1))]) (rest := [.int k]) S hm (cwV 1 hts (gL_122 tb_lw) rfl hrm.1 hrm.2.1 (by decide +kernel) ⟨by have := hrm.2.2.1; show rmM.frames + 1 ≤ 11; omega, by have := hrm.2.2.2; show 8 + (4 + 11) + rmM.locals ≤ 394; omega⟩) (pM_V hPM hKM) rfl rfl hl.1 rfl (lv_room (Nat.le_of_ble_eq_true rfl)) dL_law_1177 ⟨by show cells + 0 ≤ 1047; omega, by show slots + 0 ≤ 9875; omega⟩) hS hAM (fun H locs hPM hS _ hfr => ?_)
  have hP := keepX6 hP hfr hdis
  refine W.eq (g2 := F0 m 1180 ls [.int k, .int k]) rfl ?_
  refine lv_icmp_eq (tgt := 1185) hx hb dL_law_1180 (by decide) (fun _ => ?_) (fun hc => absurd (rfl) hc)
  exact cont H locs ls hP hPM hS hl
set_option maxHeartbeats 4000000 in
set_option maxRecDepth 100000 in
theorem op_cut {p : Program} {l : Launch} {e : Env} {s : State} {m : MethodId} {below : List Frame} {meth : Method} {c : Code} {b L : Nat} {xs : Nat → Int32} {G : va_G} {aX : Nat → Nat} {CX : Nat → ClassId} {aM : Nat → Nat} {CM : Nat → ClassId} {oo : Nat} {Co : ClassId} (h : LC p s m meth c b L xs G aX CX aM CM oo Co) {Q : State → Prop} {cells slots : Nat} (hcs : cells + 1 ≤ 1047) (hss : slots + 6 ≤ 9875) {t : Nat} (ht : 7 * t + 7 ≤ L) {K D K2 D2 K3 D3 : Nat → Int64} {Wt O W2 O2 : Nat → Int32} {n n2 : Int32} {f : Nat → Int64} {T T2 : Nat → Bool} {w w2 : Nat → Int32} {th k : Int32} {rmM : Room} (hrm : rmM.cells = 0 ∧ rmM.slots = 0 ∧ rmM.frames ≤ 2 ∧ rmM.locals ≤ 60) {x0 : Int64} (hx0 : ft_lg (xs (7 * t + 1)) (xs (7 * t + 2)) = x0) {x1 : Int64} (hx1 : ft_lg (xs (7 * t + 3)) (xs (7 * t + 4)) = x1) (hv : Met l yX0_cut wsX0_cut { frames := 3, cells := 0, slots := 0, locals := 90 } (va_Pc [.ref (aX 0), .long x0, .long x1] (rX G aX CX K D Wt O n)) (wr_Q G vwCl (some (.int k)) (wX aX CX K2 D2 W2 O2 n2) (aX5 aX)) 0 0 (aX5 aX)) (hm : Met l yX1_cut wsX1_cut rmM (va_Pc [.ref (aM 0), .long x0, .long x1] (rM G aM CM T K D w th)) (wr_Q G vwCl (some (.int k)) (wM aM CM T2 K3 D3 w2 0) (aX5 aM)) 0 0 (aX5 aM)) (cont : ∀ (H : Heap) (locs : List Loc) (ls : Array Slot), va_P G vwCl (wXo aX CX K2 D2 W2 O2 n2 oo Co f) H → va_P G vwCl (wM aM CM T2 K3 D3 w2 0) H → va_S (fun q => s.heap.size ≤ q) s.heap H locs → lv_has ls 8 [(4, .int (nI (7 * t))), (0, .ref b), (1, .ref (aX 0)), (2, .ref (aM 0)), (3, .ref oo)] → W p l e room_1 s m #[Value.ref b] below meth c H locs cells slots Q (F0 m 1185 ls [])) : ∀ (H : Heap) (locs : List Loc) (ls : Array Slot), va_P G vwCl (wXo aX CX K D Wt O n oo Co f) H → va_P G vwCl (wM aM CM T K D w th) H → va_S (fun q => s.heap.size ≤ q) s.heap H locs → lv_has ls 8 [(4, .int (nI (7 * t))), (0, .ref b), (1, .ref (aX 0)), (2, .ref (aM 0)), (3, .ref oo)] → W p l e room_1 s m #[Value.ref b] below meth c H locs cells slots Q (F0 m 1059 ls []) := by
  subst hx0
  subst hx1
  obtain ⟨⟨S, hr, hlk, hX, hbl, hL⟩, ⟨hKX, hKM, hZ, hNc⟩, hapX, hapM, hdis, hAX, hAM⟩ := h
  obtain ⟨hx, hb, hml, hown, hts⟩ := id S
  have hbA : ¬ (fun q => s.heap.size ≤ q) b := fun z => Nat.not_lt.mpr z hbl
  intro H locs ls hP hPM hS hl
  have hl : lv_has ls 8 [(4, .int (nI (7 * t))), (0, .ref b), (1, .ref (aX 0)), (2, .ref (aM 0)), (3, .ref oo)] := hl
  refine lv_aload_n hx hb dL_law_1059 rfl (lv_at hl 2 rfl) ?_
  refine lv_aload_n hx hb dL_law_1060 rfl (lv_at hl 1 rfl) ?_
  refine lv_iload hx hb dL_law_1061 (lv_at hl 0 rfl) ?_
  refine lv_iconst (v := 1) hx hb dL_law_1063 (by decide) ?_
  refine lv_iadd hx hb dL_law_1064 ?_
  refine q_topi (y := nI (7 * t + 1)) (nI_add (7 * t) 1) ?_
  refine q_sld hx hb hX hbl hbA hS (7 * t + 1) rfl (by omega) (by omega) dL_law_1065 ?_
  refine lv_i2l hx hb dL_law_1066 rfl ?_
  refine lv_bipush (v := 32) hx hb dL_law_1067 (by decide) ?_
  refine lv_lshl hx hb dL_law_1069 rfl ?_
  refine lv_aload_n hx hb dL_law_1070 rfl (lv_at hl 1 rfl) ?_
  refine lv_iload hx hb dL_law_1071 (lv_at hl 0 rfl) ?_
  refine lv_iconst (v := 2) hx hb dL_law_1073 (by decide) ?_
  refine lv_iadd hx hb dL_law_1074 ?_
  refine q_topi (y := nI (7 * t + 2)) (nI_add (7 * t) 2) ?_
  refine q_sld hx hb hX hbl hbA hS (7 * t + 2) rfl (by omega) (by omega) dL_law_1075 ?_
  refine lv_i2l hx hb dL_law_1076 rfl ?_
  refine lv_ldc2 (v := 4294967295) hx hb hown (hts _ (tb_lw _ w_k_L_62)) dL_law_1077 ?_
  refine lv_land hx hb dL_law_1080 ?_
  refine lv_lor hx hb dL_law_1081 ?_
  refine q_topl (y := ft_lg (xs (7 * t + 1)) (xs (7 * t + 2))) rfl ?_
  refine lv_aload_n hx hb dL_law_1082 rfl (lv_at hl 1 rfl) ?_
  refine lv_iload hx hb dL_law_1083 (lv_at hl 0 rfl) ?_
  refine lv_iconst (v := 3) hx hb dL_law_1085 (by decide) ?_
  refine lv_iadd hx hb dL_law_1086 ?_
  refine q_topi (y := nI (7 * t + 3)) (nI_add (7 * t) 3) ?_
  refine q_sld hx hb hX hbl hbA hS (7 * t + 3) rfl (by omega) (by omega) dL_law_1087 ?_
  refine lv_i2l hx hb dL_law_1088 rfl ?_
  refine lv_bipush (v := 32) hx hb dL_law_1089 (by decide) ?_
  refine lv_lshl hx hb dL_law_1091 rfl ?_
  refine lv_aload_n hx hb dL_law_1092 rfl (lv_at hl 1 rfl) ?_
  refine lv_iload hx hb dL_law_1093 (lv_at hl 0 rfl) ?_
  refine lv_iconst (v := 4) hx hb dL_law_1095 (by decide) ?_
  refine lv_iadd hx hb dL_law_1096 ?_
  refine q_topi (y := nI (7 * t + 4)) (nI_add (7 * t) 4) ?_
  refine q_sld hx hb hX hbl hbA hS (7 * t + 4) rfl (by omega) (by omega) dL_law_1097 ?_
  refine lv_i2l hx hb dL_law_1098 rfl ?_
  refine lv_ldc2 (v := 4294967295) hx hb hown (hts _ (tb_lw _ w_k_L_62)) dL_law_1099 ?_
  refine lv_land hx hb dL_law_1102 ?_
  refine lv_lor hx hb dL_law_1103 ?_
  refine q_topl (y := ft_lg (xs (7 * t + 3)) (xs (7 * t + 4))) rfl ?_
  refine wr_call (W.runV (As := [.long (ft_lg (xs (7 * t + 1)) (xs (7 * t + 2))), .long (ft_lg (xs (7 * t + 3)) (xs (7 * t + 4)))]) (rest := []) S hv (cwV 2 hts (gL_115 tb_lw) rfl rfl rfl (by decide +kernel) ⟨Nat.le_of_ble_eq_true rfl, Nat.le_of_ble_eq_true rfl⟩) (pX_V (hP.sub [0, 1, 2, 3, 4] rfl) (hKX.sub [0, 1, 2, 3] rfl)) rfl rfl hl.1 rfl (lv_room (Nat.le_of_ble_eq_true rfl)) dL_law_1104 ⟨by show cells + 0 ≤ 1047; omega, by show slots + 0 ≤ 9875; omega⟩) hS (fun q z => hAX q (Or.inl z)) (fun H locs hX2 hS _ hfr => ?_)
  have hP := joinXo hapX hP hX2 hfr
  have hPM := keepM hPM hfr (fun i hi z => hdis _ (Or.inl z) ⟨i, hi, rfl⟩)
  refine W.eq (g2 := F0 m 1107 ls [.int k]) rfl ?_
  refine lv_aload_n hx hb dL_law_1107 rfl (lv_at hl 3 rfl) ?_
  refine lv_aload_n hx hb dL_law_1108 rfl (lv_at hl 1 rfl) ?_
  refine lv_iload hx hb dL_law_1109 (lv_at hl 0 rfl) ?_
  refine lv_iconst (v := 1) hx hb dL_law_1111 (by decide) ?_
  refine lv_iadd hx hb dL_law_1112 ?_
  refine q_topi (y := nI (7 * t + 1)) (nI_add (7 * t) 1) ?_
  refine q_sld hx hb hX hbl hbA hS (7 * t + 1) rfl (by omega) (by omega) dL_law_1113 ?_
  refine lv_i2l hx hb dL_law_1114 rfl ?_
  refine lv_bipush (v := 32) hx hb dL_law_1115 (by decide) ?_
  refine lv_lshl hx hb dL_law_1117 rfl ?_
  refine lv_aload_n hx hb dL_law_1118 rfl (lv_at hl 1 rfl) ?_
  refine lv_iload hx hb dL_law_1119 (lv_at hl 0 rfl) ?_
  refine lv_iconst (v := 2) hx hb dL_law_1121 (by decide) ?_
  refine lv_iadd hx hb dL_law_1122 ?_
  refine q_topi (y := nI (7 * t + 2)) (nI_add (7 * t) 2) ?_
  refine q_sld hx hb hX hbl hbA hS (7 * t + 2) rfl (by omega) (by omega) dL_law_1123 ?_
  refine lv_i2l hx hb dL_law_1124 rfl ?_
  refine lv_ldc2 (v := 4294967295) hx hb hown (hts _ (tb_lw _ w_k_L_62)) dL_law_1125 ?_
  refine lv_land hx hb dL_law_1128 ?_
  refine lv_lor hx hb dL_law_1129 ?_
  refine q_topl (y := ft_lg (xs (7 * t + 1)) (xs (7 * t + 2))) rfl ?_
  refine lv_aload_n hx hb dL_law_1130 rfl (lv_at hl 1 rfl) ?_
  refine lv_iload hx hb dL_law_1131 (lv_at hl 0 rfl) ?_
  refine lv_iconst (v := 3) hx hb dL_law_1133 (by decide) ?_
  refine lv_iadd hx hb dL_law_1134 ?_
  refine q_topi (y := nI (7 * t + 3)) (nI_add (7 * t) 3) ?_
  refine q_sld hx hb hX hbl hbA hS (7 * t + 3) rfl (by omega) (by omega) dL_law_1135 ?_
  refine lv_i2l hx hb dL_law_1136 rfl ?_
  refine lv_bipush (v := 32) hx hb dL_law_1137 (by decide) ?_
  refine lv_lshl hx hb dL_law_1139 rfl ?_
  refine lv_aload_n hx hb dL_law_1140 rfl (lv_at hl 1 rfl) ?_
  refine lv_iload hx hb dL_law_1141 (lv_at hl 0 rfl) ?_
  refine lv_iconst (v := 4) hx hb dL_law_1143 (by decide) ?_
  refine lv_iadd hx hb dL_law_1144 ?_
  refine q_topi (y := nI (7 * t + 4)) (nI_add (7 * t) 4) ?_
  refine q_sld hx hb hX hbl hbA hS (7 * t + 4) rfl (by omega) (by omega) dL_law_1145 ?_
  refine lv_i2l hx hb dL_law_1146 rfl ?_
  refine lv_ldc2 (v := 4294967295) hx hb hown (hts _ (tb_lw _ w_k_L_62)) dL_law_1147 ?_
  refine lv_land hx hb dL_law_1150 ?_
  refine lv_lor hx hb dL_law_1151 ?_
  refine q_topl (y := ft_lg (xs (7 * t + 3)) (xs (7 * t + 4))) rfl ?_
  refine wr_call (W.runV (As := [.long (ft_lg (xs (7 * t + 1)) (xs (7 * t + 2))), .long (ft_lg (xs (7 * t + 3)) (xs (7 * t + 4)))]) (rest := [.int k]) S hm (cwV 2 hts (gL_118 tb_lw) rfl hrm.1 hrm.2.1 (by decide +kernel) ⟨by have := hrm.2.2.1; show rmM.frames + 1 ≤ 11; omega, by have := hrm.2.2.2; show 8 + (7 + 11) + rmM.locals ≤ 394; omega⟩) (pM_V hPM hKM) rfl rfl hl.1 rfl (lv_room (Nat.le_of_ble_eq_true rfl)) dL_law_1152 ⟨by show cells + 0 + 0 ≤ 1047; omega, by show slots + 0 + 0 ≤ 9875; omega⟩) hS hAM (fun H locs hPM hS _ hfr => ?_)
  have hP := keepX6 hP hfr hdis
  refine W.eq (g2 := F0 m 1155 ls [.int k, .int k]) rfl ?_
  refine lv_icmp_eq (tgt := 1185) hx hb dL_law_1155 (by decide) (fun _ => ?_) (fun hc => absurd (rfl) hc)
  exact cont H locs ls hP hPM hS hl
