/-! the law's wrappers, each by the contract of the method that it calls -/
theorem joinXo {G : va_G} {a : Nat → Nat} {C : Nat → ClassId} {K D K' D' : Nat → Int64} {Wt O Wt' O' : Nat → Int32} {n n' : Int32} {oo : Nat} {Co : ClassId} {f : Nat → Int64} {H H1 : Heap} (hap : apXo a oo) (hP : va_P G vwCl (wXo a C K D Wt O n oo Co f) H) (hX : va_P G vwCl (wX a C K' D' Wt' O' n') H1) (hh : ∀ q : Nat, q < H.size → ¬ aX5 a q → H1[q]? = H[q]?) : va_P G vwCl (wXo a C K' D' Wt' O' n' oo Co f) H1 := by
  have h5 : va_at G vwCl (wOut oo Co f) H := hP 5 _ rfl
  have h6 : va_at G vwCl (wOut oo Co f) H1 := h5.kept (hh oo h5.lt (fun ⟨i, hi, e⟩ => hap.2 i hi e.symm))
  have h7 : va_P G vwCl [wOut oo Co f] H1 := by
    intro k q hk
    match k, hk with
    | 0, hk => cases hk; exact h6
    | k + 1, hk => simp at hk
  exact hX.app h7
set_option maxHeartbeats 4000000 in
set_option maxRecDepth 100000 in
theorem lw_put_ok (l : Launch) (G : va_G) (a : Nat → Nat) (C : Nat → ClassId) (oo : Nat) (Co : ClassId) (hap : apXo a oo) (K D : Nat → Int64) (Wt O : Nat → Int32) (n : Int32) (f : Nat → Int64) {x0 : Int32} {x1 : Int64} {x2 : Int64} {x3 : Int32} {v : Int32} {K2 D2 : Nat → Int64} {W2 O2 : Nat → Int32} {n2 : Int32} (hM : Met l yX0_put wsX0_put { frames := 3, cells := 0, slots := 0, locals := 90 } (va_Pc [.ref (a 0), .int x0, .long x1, .long x2, .int x3] (rX G a C K D Wt O n)) (wr_Q G vwCl (some (.int v)) (wX a C K2 D2 W2 O2 n2) (aX5 a)) 0 0 (aX5 a)) : Met l yL_put wsL_put { frames := 8, cells := 1, slots := 6, locals := 150 } (va_Pc [.ref (a 0), .int x0, .long x1, .long x2, .int x3, .ref oo] (bXo G a C K D Wt O n oo Co f)) (wr_Q G vwCl (some (.int 0)) (wXo a C K2 D2 W2 O2 n2 oo Co (vp_updL f 0 v.toInt64)) (aXo a oo)) 1 6 (aXo a oo) := by
  refine q_openW (cc := cL_put) (maxL := 9) (ret := (some .int)) (hh := [(0, 15, 18, 13)]) (by decide) rfl (Nat.le_of_ble_eq_true rfl) ?_
  intro p e s m below meth c ls S hr hlk htab hB hl
  obtain ⟨hx, hb, hml, hown, hts⟩ := id S
  obtain ⟨⟨hP, hK⟩, hG, hNc⟩ := hB
  have hPX : va_P G vwCl (wX a C K D Wt O n) s.heap := hP.sub [0, 1, 2, 3, 4] rfl
  have hKX : va_K G vwCl (tX C) s := hK.sub [0, 1, 2, 3] rfl
  have hS : va_S (aXo a oo) s.heap s.heap [] := va_S.rf
  have hl : lv_has ls 9 [(0, .ref (a 0)), (1, .int x0), (2, .long x1), (4, .long x2), (6, .int x3), (7, .ref oo)] := hl
  refine lv_aload hx hb dL_put_0 (lv_at hl 5 rfl) ?_
  refine lv_iconst (v := 0) hx hb dL_put_2 (by decide) ?_
  refine lv_aload_n hx hb dL_put_3 rfl (lv_at hl 0 rfl) ?_
  refine lv_iload_n hx hb dL_put_4 rfl (lv_at hl 1 rfl) ?_
  refine lv_lload_n hx hb dL_put_5 rfl (lv_at hl 2 rfl) ?_
  refine lv_lload hx hb dL_put_6 (lv_at hl 3 rfl) ?_
  refine lv_iload hx hb dL_put_8 (lv_at hl 4 rfl) ?_
  refine wr_call (W.runV (As := [.int x0, .long x1, .long x2, .int x3]) (rest := [.int 0, .ref oo]) S hM (cwV 4 hts (gL_7 tb_cons) rfl rfl rfl (by decide +kernel) ⟨Nat.le_of_ble_eq_true rfl, Nat.le_of_ble_eq_true rfl⟩) (pX_V hPX hKX) rfl rfl hl.1 rfl (lv_room (Nat.le_of_ble_eq_true rfl)) dL_put_10 ⟨Nat.zero_le _, Nat.zero_le _⟩) hS (fun q z => Or.inl z) (fun H locs hX2 hS _ hfr => ?_)
  have hP := joinXo hap hP hX2 hfr
  refine W.eq (g2 := F0 m 13 ls [.int v, .int 0, .ref oo]) rfl ?_
  refine lv_i2l hx hb dL_put_13 rfl ?_
  refine q_last hx hb hK hP (dXo hap _ _ _ _ _ _ _ _) hS 5 4 rfl rfl 0 rfl (by decide) (by decide) dL_put_14 (fun H locs hP hS => ?_)
  refine lv_goto (tgt := 22) hx hb dL_put_15 (by decide) ?_
  refine lv_iconst (v := 0) hx hb dL_put_22 (by decide) ?_
  refine W.widen (k := 1) (n := 6) (by omega) (by omega) ?_
  exact W.iret hx hb hr (fun t ht _ => ⟨rfl, by rw [ht]; exact hP, hS.F ht⟩) hS.2.2 dL_put_23
set_option maxHeartbeats 4000000 in
set_option maxRecDepth 100000 in
theorem lw_put_IA (l : Launch) (G : va_G) (a : Nat → Nat) (C : Nat → ClassId) (oo : Nat) (Co : ClassId) (hap : apXo a oo) (K D : Nat → Int64) (Wt O : Nat → Int32) (n : Int32) (f : Nat → Int64) {x0 : Int32} {x1 : Int64} {x2 : Int64} {x3 : Int32} (hM : tx_Met l yX0_put wsX0_put { frames := 6, cells := 1, slots := 6, locals := 90 } (va_Pc [.ref (a 0), .int x0, .long x1, .long x2, .int x3] (bX G a C K D Wt O n)) (th_Q EIA) 1 6 (fun _ => False)) : Met l yL_put wsL_put { frames := 8, cells := 1, slots := 6, locals := 150 } (va_Pc [.ref (a 0), .int x0, .long x1, .long x2, .int x3, .ref oo] (bXo G a C K D Wt O n oo Co f)) (wr_Q G vwCl (some (.int 1)) (wXo a C K D Wt O n oo Co f) (aXo a oo)) 1 6 (aXo a oo) := by
  refine q_openW (cc := cL_put) (maxL := 9) (ret := (some .int)) (hh := [(0, 15, 18, 13)]) (by decide) rfl (Nat.le_of_ble_eq_true rfl) ?_
  intro p e s m below meth c ls S hr hlk htab hB hl
  obtain ⟨hx, hb, hml, hown, hts⟩ := id S
  obtain ⟨⟨hP, hK⟩, hG, hNc⟩ := hB
  have hPX : va_P G vwCl (wX a C K D Wt O n) s.heap := hP.sub [0, 1, 2, 3, 4] rfl
  have hKX : va_K G vwCl (tX C) s := hK.sub [0, 1, 2, 3] rfl
  have hS : va_S (aXo a oo) s.heap s.heap [] := va_S.rf
  have hl : lv_has ls 9 [(0, .ref (a 0)), (1, .int x0), (2, .long x1), (4, .long x2), (6, .int x3), (7, .ref oo)] := hl
  refine lv_aload hx hb dL_put_0 (lv_at hl 5 rfl) ?_
  refine lv_iconst (v := 0) hx hb dL_put_2 (by decide) ?_
  refine lv_aload_n hx hb dL_put_3 rfl (lv_at hl 0 rfl) ?_
  refine lv_iload_n hx hb dL_put_4 rfl (lv_at hl 1 rfl) ?_
  refine lv_lload_n hx hb dL_put_5 rfl (lv_at hl 2 rfl) ?_
  refine lv_lload hx hb dL_put_6 (lv_at hl 3 rfl) ?_
  refine lv_iload hx hb dL_put_8 (lv_at hl 4 rfl) ?_
  refine tx_runV (As := [.int x0, .long x1, .long x2, .int x3]) (rest := [.int 0, .ref oo]) S hM (cwV 4 hts (gL_7 tb_cons) rfl rfl rfl (by decide +kernel) ⟨Nat.le_of_ble_eq_true rfl, Nat.le_of_ble_eq_true rfl⟩) (pXb_V hPX hKX hG) rfl hl.1 rfl (lv_room (Nat.le_of_ble_eq_true rfl)) dL_put_10 ⟨Nat.le_of_ble_eq_true rfl, Nat.le_of_ble_eq_true rfl⟩ (fun o st t H1 L h0 h1 ha9 hq hL9 => ?_)
  obtain ⟨x9, ce, ho, h3, h5, h4, h6, h7⟩ := hq
  subst ho
  refine ⟨fun v hv => (by cases hv), fun x hx9 => ?_⟩
  cases hx9
  refine tx_catch1 (x := ⟨0, 15, 18, 13⟩) (rows := []) (cls := EIA) htab (by decide) (by decide) hown (hts _ (tb_cons _ w_cl_L_13)) (by rw [← h1]; exact h3) h5 (by rw [← ha9.findClass]; exact h4) ?_
  have hh : ∀ q : Nat, q < s.heap.size → H1[q]? = s.heap[q]? := fun q hq => by rw [← h1, ← h0]; exact h7 q (by rw [h0]; exact hq)
  have hP := keepXo hP hh
  refine lv_astore hx hb dL_put_18 hl (by decide) rfl (fun ls hl => ?_)
  have hl : lv_has ls 9 [(8, .ref x9), (0, .ref (a 0)), (1, .int x0), (2, .long x1), (4, .long x2), (6, .int x3), (7, .ref oo)] := hl
  refine lv_iconst (v := 1) hx hb dL_put_20 (by decide) ?_
  exact W.iret hx hb hr (fun u hu _ => ⟨rfl, by rw [hu]; exact hP, by rw [hu, ← h1, ← h0]; exact h6, fun q hq _ => by rw [hu]; exact hh q hq⟩) (fun q hq => (hL9 q hq).elim) dL_put_21
set_option maxHeartbeats 4000000 in
set_option maxRecDepth 100000 in
theorem lw_drop_ok (l : Launch) (G : va_G) (a : Nat → Nat) (C : Nat → ClassId) (oo : Nat) (Co : ClassId) (hap : apXo a oo) (K D : Nat → Int64) (Wt O : Nat → Int32) (n : Int32) (f : Nat → Int64) {x0 : Int32} {v : Int32} {K2 D2 : Nat → Int64} {W2 O2 : Nat → Int32} {n2 : Int32} (hM : Met l yX0_drop wsX0_drop { frames := 3, cells := 0, slots := 0, locals := 90 } (va_Pc [.ref (a 0), .int x0] (rX G a C K D Wt O n)) (wr_Q G vwCl (some (.int v)) (wX a C K2 D2 W2 O2 n2) (aX5 a)) 0 0 (aX5 a)) : Met l yL_drop wsL_drop { frames := 8, cells := 1, slots := 6, locals := 150 } (va_Pc [.ref (a 0), .int x0, .ref oo] (bXo G a C K D Wt O n oo Co f)) (wr_Q G vwCl (some (.int 0)) (wXo a C K2 D2 W2 O2 n2 oo Co (vp_updL f 0 v.toInt64)) (aXo a oo)) 1 6 (aXo a oo) := by
  refine q_openW (cc := cL_drop) (maxL := 4) (ret := (some .int)) (hh := [(0, 9, 12, 19)]) (by decide) rfl (Nat.le_of_ble_eq_true rfl) ?_
  intro p e s m below meth c ls S hr hlk htab hB hl
  obtain ⟨hx, hb, hml, hown, hts⟩ := id S
  obtain ⟨⟨hP, hK⟩, hG, hNc⟩ := hB
  have hPX : va_P G vwCl (wX a C K D Wt O n) s.heap := hP.sub [0, 1, 2, 3, 4] rfl
  have hKX : va_K G vwCl (tX C) s := hK.sub [0, 1, 2, 3] rfl
  have hS : va_S (aXo a oo) s.heap s.heap [] := va_S.rf
  have hl : lv_has ls 4 [(0, .ref (a 0)), (1, .int x0), (2, .ref oo)] := hl
  refine lv_aload_n hx hb dL_drop_0 rfl (lv_at hl 2 rfl) ?_
  refine lv_iconst (v := 0) hx hb dL_drop_1 (by decide) ?_
  refine lv_aload_n hx hb dL_drop_2 rfl (lv_at hl 0 rfl) ?_
  refine lv_iload_n hx hb dL_drop_3 rfl (lv_at hl 1 rfl) ?_
  refine wr_call (W.runV (As := [.int x0]) (rest := [.int 0, .ref oo]) S hM (cwV 1 hts (gL_15 tb_cons) rfl rfl rfl (by decide +kernel) ⟨Nat.le_of_ble_eq_true rfl, Nat.le_of_ble_eq_true rfl⟩) (pX_V hPX hKX) rfl rfl hl.1 rfl (lv_room (Nat.le_of_ble_eq_true rfl)) dL_drop_4 ⟨Nat.zero_le _, Nat.zero_le _⟩) hS (fun q z => Or.inl z) (fun H locs hX2 hS _ hfr => ?_)
  have hP := joinXo hap hP hX2 hfr
  refine W.eq (g2 := F0 m 7 ls [.int v, .int 0, .ref oo]) rfl ?_
  refine lv_i2l hx hb dL_drop_7 rfl ?_
  refine q_last hx hb hK hP (dXo hap _ _ _ _ _ _ _ _) hS 5 4 rfl rfl 0 rfl (by decide) (by decide) dL_drop_8 (fun H locs hP hS => ?_)
  refine lv_goto (tgt := 15) hx hb dL_drop_9 (by decide) ?_
  refine lv_iconst (v := 0) hx hb dL_drop_15 (by decide) ?_
  refine W.widen (k := 1) (n := 6) (by omega) (by omega) ?_
  exact W.iret hx hb hr (fun t ht _ => ⟨rfl, by rw [ht]; exact hP, hS.F ht⟩) hS.2.2 dL_drop_16
set_option maxHeartbeats 4000000 in
set_option maxRecDepth 100000 in
theorem lw_drop_NS (l : Launch) (G : va_G) (a : Nat → Nat) (C : Nat → ClassId) (oo : Nat) (Co : ClassId) (hap : apXo a oo) (K D : Nat → Int64) (Wt O : Nat → Int32) (n : Int32) (f : Nat → Int64) {x0 : Int32} (hM : tx_Met l yX0_drop wsX0_drop { frames := 6, cells := 1, slots := 6, locals := 90 } (va_Pc [.ref (a 0), .int x0] (bX G a C K D Wt O n)) (th_Q ENS) 1 6 (fun _ => False)) : Met l yL_drop wsL_drop { frames := 8, cells := 1, slots := 6, locals := 150 } (va_Pc [.ref (a 0), .int x0, .ref oo] (bXo G a C K D Wt O n oo Co f)) (wr_Q G vwCl (some (.int 1)) (wXo a C K D Wt O n oo Co f) (aXo a oo)) 1 6 (aXo a oo) := by
  refine q_openW (cc := cL_drop) (maxL := 4) (ret := (some .int)) (hh := [(0, 9, 12, 19)]) (by decide) rfl (Nat.le_of_ble_eq_true rfl) ?_
  intro p e s m below meth c ls S hr hlk htab hB hl
  obtain ⟨hx, hb, hml, hown, hts⟩ := id S
  obtain ⟨⟨hP, hK⟩, hG, hNc⟩ := hB
  have hPX : va_P G vwCl (wX a C K D Wt O n) s.heap := hP.sub [0, 1, 2, 3, 4] rfl
  have hKX : va_K G vwCl (tX C) s := hK.sub [0, 1, 2, 3] rfl
  have hS : va_S (aXo a oo) s.heap s.heap [] := va_S.rf
  have hl : lv_has ls 4 [(0, .ref (a 0)), (1, .int x0), (2, .ref oo)] := hl
  refine lv_aload_n hx hb dL_drop_0 rfl (lv_at hl 2 rfl) ?_
  refine lv_iconst (v := 0) hx hb dL_drop_1 (by decide) ?_
  refine lv_aload_n hx hb dL_drop_2 rfl (lv_at hl 0 rfl) ?_
  refine lv_iload_n hx hb dL_drop_3 rfl (lv_at hl 1 rfl) ?_
  refine tx_runV (As := [.int x0]) (rest := [.int 0, .ref oo]) S hM (cwV 1 hts (gL_15 tb_cons) rfl rfl rfl (by decide +kernel) ⟨Nat.le_of_ble_eq_true rfl, Nat.le_of_ble_eq_true rfl⟩) (pXb_V hPX hKX hG) rfl hl.1 rfl (lv_room (Nat.le_of_ble_eq_true rfl)) dL_drop_4 ⟨Nat.le_of_ble_eq_true rfl, Nat.le_of_ble_eq_true rfl⟩ (fun o st t H1 L h0 h1 ha9 hq hL9 => ?_)
  obtain ⟨x9, ce, ho, h3, h5, h4, h6, h7⟩ := hq
  subst ho
  refine ⟨fun v hv => (by cases hv), fun x hx9 => ?_⟩
  cases hx9
  refine tx_catch1 (x := ⟨0, 9, 12, 19⟩) (rows := []) (cls := ENS) htab (by decide) (by decide) hown (hts _ (tb_cons _ w_cl_L_19)) (by rw [← h1]; exact h3) h5 (by rw [← ha9.findClass]; exact h4) ?_
  have hh : ∀ q : Nat, q < s.heap.size → H1[q]? = s.heap[q]? := fun q hq => by rw [← h1, ← h0]; exact h7 q (by rw [h0]; exact hq)
  have hP := keepXo hP hh
  refine lv_astore_n hx hb dL_drop_12 rfl hl (by decide) rfl (fun ls hl => ?_)
  have hl : lv_has ls 4 [(3, .ref x9), (0, .ref (a 0)), (1, .int x0), (2, .ref oo)] := hl
  refine lv_iconst (v := 1) hx hb dL_drop_13 (by decide) ?_
  exact W.iret hx hb hr (fun u hu _ => ⟨rfl, by rw [hu]; exact hP, by rw [hu, ← h1, ← h0]; exact h6, fun q hq _ => by rw [hu]; exact hh q hq⟩) (fun q hq => (hL9 q hq).elim) dL_drop_14
set_option maxHeartbeats 4000000 in
set_option maxRecDepth 100000 in
theorem lw_slide_ok (l : Launch) (G : va_G) (a : Nat → Nat) (C : Nat → ClassId) (oo : Nat) (Co : ClassId) (hap : apXo a oo) (K D : Nat → Int64) (Wt O : Nat → Int32) (n : Int32) (f : Nat → Int64) {x0 : Int64} {v : Int64} {K2 D2 : Nat → Int64} {W2 O2 : Nat → Int32} {n2 : Int32} (hM : Met l yX0_slide wsX0_slide { frames := 1, cells := 0, slots := 0, locals := 30 } (va_Pc [.ref (a 0), .long x0] (rX G a C K D Wt O n)) (wr_Q G vwCl (some (.long v)) (wX a C K2 D2 W2 O2 n2) (aX5 a)) 0 0 (aX5 a)) : Met l yL_slide wsL_slide { frames := 8, cells := 1, slots := 6, locals := 150 } (va_Pc [.ref (a 0), .long x0, .ref oo] (bXo G a C K D Wt O n oo Co f)) (wr_Q G vwCl (some (.int 0)) (wXo a C K2 D2 W2 O2 n2 oo Co (vp_updL f 0 v)) (aXo a oo)) 1 6 (aXo a oo) := by
  refine q_openW (cc := cL_slide) (maxL := 5) (ret := (some .int)) (hh := [(0, 8, 11, 19), (0, 8, 15, 13)]) (by decide) rfl (Nat.le_of_ble_eq_true rfl) ?_
  intro p e s m below meth c ls S hr hlk htab hB hl
  obtain ⟨hx, hb, hml, hown, hts⟩ := id S
  obtain ⟨⟨hP, hK⟩, hG, hNc⟩ := hB
  have hPX : va_P G vwCl (wX a C K D Wt O n) s.heap := hP.sub [0, 1, 2, 3, 4] rfl
  have hKX : va_K G vwCl (tX C) s := hK.sub [0, 1, 2, 3] rfl
  have hS : va_S (aXo a oo) s.heap s.heap [] := va_S.rf
  have hl : lv_has ls 5 [(0, .ref (a 0)), (1, .long x0), (3, .ref oo)] := hl
  refine lv_aload_n hx hb dL_slide_0 rfl (lv_at hl 2 rfl) ?_
  refine lv_iconst (v := 0) hx hb dL_slide_1 (by decide) ?_
  refine lv_aload_n hx hb dL_slide_2 rfl (lv_at hl 0 rfl) ?_
  refine lv_lload_n hx hb dL_slide_3 rfl (lv_at hl 1 rfl) ?_
  refine wr_call (W.runV (As := [.long x0]) (rest := [.int 0, .ref oo]) S hM (cwV 1 hts (gL_21 tb_cons) rfl rfl rfl (by decide +kernel) ⟨Nat.le_of_ble_eq_true rfl, Nat.le_of_ble_eq_true rfl⟩) (pX_V hPX hKX) rfl rfl hl.1 rfl (lv_room (Nat.le_of_ble_eq_true rfl)) dL_slide_4 ⟨Nat.zero_le _, Nat.zero_le _⟩) hS (fun q z => Or.inl z) (fun H locs hX2 hS _ hfr => ?_)
  have hP := joinXo hap hP hX2 hfr
  refine W.eq (g2 := F0 m 7 ls [.long v, .int 0, .ref oo]) rfl ?_
  refine q_last hx hb hK hP (dXo hap _ _ _ _ _ _ _ _) hS 5 4 rfl rfl 0 rfl (by decide) (by decide) dL_slide_7 (fun H locs hP hS => ?_)
  refine lv_goto (tgt := 19) hx hb dL_slide_8 (by decide) ?_
  refine lv_iconst (v := 0) hx hb dL_slide_19 (by decide) ?_
  refine W.widen (k := 1) (n := 6) (by omega) (by omega) ?_
  exact W.iret hx hb hr (fun t ht _ => ⟨rfl, by rw [ht]; exact hP, hS.F ht⟩) hS.2.2 dL_slide_20
set_option maxHeartbeats 4000000 in
set_option maxRecDepth 100000 in
theorem lw_slide_NS (l : Launch) (G : va_G) (a : Nat → Nat) (C : Nat → ClassId) (oo : Nat) (Co : ClassId) (hap : apXo a oo) (K D : Nat → Int64) (Wt O : Nat → Int32) (n : Int32) (f : Nat → Int64) {x0 : Int64} (hM : tx_Met l yX0_slide wsX0_slide { frames := 6, cells := 1, slots := 6, locals := 90 } (va_Pc [.ref (a 0), .long x0] (bX G a C K D Wt O n)) (th_Q ENS) 1 6 (fun _ => False)) : Met l yL_slide wsL_slide { frames := 8, cells := 1, slots := 6, locals := 150 } (va_Pc [.ref (a 0), .long x0, .ref oo] (bXo G a C K D Wt O n oo Co f)) (wr_Q G vwCl (some (.int 1)) (wXo a C K D Wt O n oo Co f) (aXo a oo)) 1 6 (aXo a oo) := by
  refine q_openW (cc := cL_slide) (maxL := 5) (ret := (some .int)) (hh := [(0, 8, 11, 19), (0, 8, 15, 13)]) (by decide) rfl (Nat.le_of_ble_eq_true rfl) ?_
  intro p e s m below meth c ls S hr hlk htab hB hl
  obtain ⟨hx, hb, hml, hown, hts⟩ := id S
  obtain ⟨⟨hP, hK⟩, hG, hNc⟩ := hB
  have hPX : va_P G vwCl (wX a C K D Wt O n) s.heap := hP.sub [0, 1, 2, 3, 4] rfl
  have hKX : va_K G vwCl (tX C) s := hK.sub [0, 1, 2, 3] rfl
  have hS : va_S (aXo a oo) s.heap s.heap [] := va_S.rf
  have hl : lv_has ls 5 [(0, .ref (a 0)), (1, .long x0), (3, .ref oo)] := hl
  refine lv_aload_n hx hb dL_slide_0 rfl (lv_at hl 2 rfl) ?_
  refine lv_iconst (v := 0) hx hb dL_slide_1 (by decide) ?_
  refine lv_aload_n hx hb dL_slide_2 rfl (lv_at hl 0 rfl) ?_
  refine lv_lload_n hx hb dL_slide_3 rfl (lv_at hl 1 rfl) ?_
  refine tx_runV (As := [.long x0]) (rest := [.int 0, .ref oo]) S hM (cwV 1 hts (gL_21 tb_cons) rfl rfl rfl (by decide +kernel) ⟨Nat.le_of_ble_eq_true rfl, Nat.le_of_ble_eq_true rfl⟩) (pXb_V hPX hKX hG) rfl hl.1 rfl (lv_room (Nat.le_of_ble_eq_true rfl)) dL_slide_4 ⟨Nat.le_of_ble_eq_true rfl, Nat.le_of_ble_eq_true rfl⟩ (fun o st t H1 L h0 h1 ha9 hq hL9 => ?_)
  obtain ⟨x9, ce, ho, h3, h5, h4, h6, h7⟩ := hq
  subst ho
  refine ⟨fun v hv => (by cases hv), fun x hx9 => ?_⟩
  cases hx9
  refine tx_catch1 (x := ⟨0, 8, 11, 19⟩) (rows := [⟨0, 8, 15, 13⟩]) (cls := ENS) htab (by decide) (by decide) hown (hts _ (tb_cons _ w_cl_L_19)) (by rw [← h1]; exact h3) h5 (by rw [← ha9.findClass]; exact h4) ?_
  have hh : ∀ q : Nat, q < s.heap.size → H1[q]? = s.heap[q]? := fun q hq => by rw [← h1, ← h0]; exact h7 q (by rw [h0]; exact hq)
  have hP := keepXo hP hh
  refine lv_astore hx hb dL_slide_11 hl (by decide) rfl (fun ls hl => ?_)
  have hl : lv_has ls 5 [(4, .ref x9), (0, .ref (a 0)), (1, .long x0), (3, .ref oo)] := hl
  refine lv_iconst (v := 1) hx hb dL_slide_13 (by decide) ?_
  exact W.iret hx hb hr (fun u hu _ => ⟨rfl, by rw [hu]; exact hP, by rw [hu, ← h1, ← h0]; exact h6, fun q hq _ => by rw [hu]; exact hh q hq⟩) (fun q hq => (hL9 q hq).elim) dL_slide_14
set_option maxHeartbeats 4000000 in
set_option maxRecDepth 100000 in
theorem lw_slide_IA (l : Launch) (G : va_G) (a : Nat → Nat) (C : Nat → ClassId) (oo : Nat) (Co : ClassId) (hap : apXo a oo) (K D : Nat → Int64) (Wt O : Nat → Int32) (n : Int32) (f : Nat → Int64) {x0 : Int64} (hM : tx_Met l yX0_slide wsX0_slide { frames := 6, cells := 1, slots := 6, locals := 90 } (va_Pc [.ref (a 0), .long x0] (bX G a C K D Wt O n)) (th_Q EIA) 1 6 (fun _ => False)) : Met l yL_slide wsL_slide { frames := 8, cells := 1, slots := 6, locals := 150 } (va_Pc [.ref (a 0), .long x0, .ref oo] (bXo G a C K D Wt O n oo Co f)) (wr_Q G vwCl (some (.int 2)) (wXo a C K D Wt O n oo Co f) (aXo a oo)) 1 6 (aXo a oo) := by
  refine q_openW (cc := cL_slide) (maxL := 5) (ret := (some .int)) (hh := [(0, 8, 11, 19), (0, 8, 15, 13)]) (by decide) rfl (Nat.le_of_ble_eq_true rfl) ?_
  intro p e s m below meth c ls S hr hlk htab hB hl
  obtain ⟨hx, hb, hml, hown, hts⟩ := id S
  obtain ⟨⟨hP, hK⟩, hG, hNc⟩ := hB
  have hPX : va_P G vwCl (wX a C K D Wt O n) s.heap := hP.sub [0, 1, 2, 3, 4] rfl
  have hKX : va_K G vwCl (tX C) s := hK.sub [0, 1, 2, 3] rfl
  have hS : va_S (aXo a oo) s.heap s.heap [] := va_S.rf
  have hl : lv_has ls 5 [(0, .ref (a 0)), (1, .long x0), (3, .ref oo)] := hl
  refine lv_aload_n hx hb dL_slide_0 rfl (lv_at hl 2 rfl) ?_
  refine lv_iconst (v := 0) hx hb dL_slide_1 (by decide) ?_
  refine lv_aload_n hx hb dL_slide_2 rfl (lv_at hl 0 rfl) ?_
  refine lv_lload_n hx hb dL_slide_3 rfl (lv_at hl 1 rfl) ?_
  refine tx_runV (As := [.long x0]) (rest := [.int 0, .ref oo]) S hM (cwV 1 hts (gL_21 tb_cons) rfl rfl rfl (by decide +kernel) ⟨Nat.le_of_ble_eq_true rfl, Nat.le_of_ble_eq_true rfl⟩) (pXb_V hPX hKX hG) rfl hl.1 rfl (lv_room (Nat.le_of_ble_eq_true rfl)) dL_slide_4 ⟨Nat.le_of_ble_eq_true rfl, Nat.le_of_ble_eq_true rfl⟩ (fun o st t H1 L h0 h1 ha9 hq hL9 => ?_)
  obtain ⟨x9, ce, ho, h3, h5, h4, h6, h7⟩ := hq
  subst ho
  refine ⟨fun v hv => (by cases hv), fun x hx9 => ?_⟩
  cases hx9
  refine tx_catch2 (x := ⟨0, 8, 11, 19⟩) (y := ⟨0, 8, 15, 13⟩) (rows := []) (cls := EIA) (other := ENS) htab (by decide) (by decide) (by decide) (by decide) hown (hts _ (tb_cons _ w_cl_L_19)) hNc (hts _ (tb_cons _ w_cl_L_13)) (by rw [← h1]; exact h3) h5 (by rw [← ha9.findClass]; exact h4) ?_
  have hh : ∀ q : Nat, q < s.heap.size → H1[q]? = s.heap[q]? := fun q hq => by rw [← h1, ← h0]; exact h7 q (by rw [h0]; exact hq)
  have hP := keepXo hP hh
  refine lv_astore hx hb dL_slide_15 hl (by decide) rfl (fun ls hl => ?_)
  have hl : lv_has ls 5 [(4, .ref x9), (0, .ref (a 0)), (1, .long x0), (3, .ref oo)] := hl
  refine lv_iconst (v := 2) hx hb dL_slide_17 (by decide) ?_
  exact W.iret hx hb hr (fun u hu _ => ⟨rfl, by rw [hu]; exact hP, by rw [hu, ← h1, ← h0]; exact h6, fun q hq _ => by rw [hu]; exact hh q hq⟩) (fun q hq => (hL9 q hq).elim) dL_slide_18
set_option maxHeartbeats 4000000 in
set_option maxRecDepth 100000 in
theorem lw_told_ok (l : Launch) (G : va_G) (a : Nat → Nat) (C : Nat → ClassId) (oo : Nat) (Co : ClassId) (hap : apXo a oo) (K D : Nat → Int64) (Wt O : Nat → Int32) (n : Int32) (f : Nat → Int64) {x0 : Int32} {x1 : Int32} {v : Int64} (hM : Met l yX0_told wsX0_told { frames := 2, cells := 0, slots := 0, locals := 60 } (va_Pc [.ref (a 0), .int x0, .int x1] (rX G a C K D Wt O n)) (rd_Q (.long v)) 0 0 (fun _ => False)) : Met l yL_told wsL_told { frames := 8, cells := 1, slots := 6, locals := 150 } (va_Pc [.ref (a 0), .int x0, .int x1, .ref oo] (bXo G a C K D Wt O n oo Co f)) (wr_Q G vwCl (some (.int 0)) (wXo a C K D Wt O n oo Co (vp_updL f 0 v)) (aXo a oo)) 1 6 (aXo a oo) := by
  refine q_openW (cc := cL_told) (maxL := 5) (ret := (some .int)) (hh := [(0, 9, 12, 19), (0, 9, 16, 13)]) (by decide) rfl (Nat.le_of_ble_eq_true rfl) ?_
  intro p e s m below meth c ls S hr hlk htab hB hl
  obtain ⟨hx, hb, hml, hown, hts⟩ := id S
  obtain ⟨⟨hP, hK⟩, hG, hNc⟩ := hB
  have hPX : va_P G vwCl (wX a C K D Wt O n) s.heap := hP.sub [0, 1, 2, 3, 4] rfl
  have hKX : va_K G vwCl (tX C) s := hK.sub [0, 1, 2, 3] rfl
  have hS : va_S (aXo a oo) s.heap s.heap [] := va_S.rf
  have hl : lv_has ls 5 [(0, .ref (a 0)), (1, .int x0), (2, .int x1), (3, .ref oo)] := hl
  refine lv_aload_n hx hb dL_told_0 rfl (lv_at hl 3 rfl) ?_
  refine lv_iconst (v := 0) hx hb dL_told_1 (by decide) ?_
  refine lv_aload_n hx hb dL_told_2 rfl (lv_at hl 0 rfl) ?_
  refine lv_iload_n hx hb dL_told_3 rfl (lv_at hl 1 rfl) ?_
  refine lv_iload_n hx hb dL_told_4 rfl (lv_at hl 2 rfl) ?_
  refine rd_call (W.runV (As := [.int x0, .int x1]) (rest := [.int 0, .ref oo]) S hM (cwV 2 hts (gL_25 tb_cons) rfl rfl rfl (by decide +kernel) ⟨Nat.le_of_ble_eq_true rfl, Nat.le_of_ble_eq_true rfl⟩) (pX_V hPX hKX) rfl rfl hl.1 rfl (lv_room (Nat.le_of_ble_eq_true rfl)) dL_told_5 ⟨Nat.zero_le _, Nat.zero_le _⟩) ?_
  refine q_last hx hb hK hP (dXo hap _ _ _ _ _ _ _ _) hS 5 4 rfl rfl 0 rfl (by decide) (by decide) dL_told_8 (fun H locs hP hS => ?_)
  refine lv_goto (tgt := 20) hx hb dL_told_9 (by decide) ?_
  refine lv_iconst (v := 0) hx hb dL_told_20 (by decide) ?_
  refine W.widen (k := 1) (n := 6) (by omega) (by omega) ?_
  exact W.iret hx hb hr (fun t ht _ => ⟨rfl, by rw [ht]; exact hP, hS.F ht⟩) hS.2.2 dL_told_21
set_option maxHeartbeats 4000000 in
set_option maxRecDepth 100000 in
theorem lw_told_NS (l : Launch) (G : va_G) (a : Nat → Nat) (C : Nat → ClassId) (oo : Nat) (Co : ClassId) (hap : apXo a oo) (K D : Nat → Int64) (Wt O : Nat → Int32) (n : Int32) (f : Nat → Int64) {x0 : Int32} {x1 : Int32} (hM : tx_Met l yX0_told wsX0_told { frames := 6, cells := 1, slots := 6, locals := 90 } (va_Pc [.ref (a 0), .int x0, .int x1] (bX G a C K D Wt O n)) (th_Q ENS) 1 6 (fun _ => False)) : Met l yL_told wsL_told { frames := 8, cells := 1, slots := 6, locals := 150 } (va_Pc [.ref (a 0), .int x0, .int x1, .ref oo] (bXo G a C K D Wt O n oo Co f)) (wr_Q G vwCl (some (.int 1)) (wXo a C K D Wt O n oo Co f) (aXo a oo)) 1 6 (aXo a oo) := by
  refine q_openW (cc := cL_told) (maxL := 5) (ret := (some .int)) (hh := [(0, 9, 12, 19), (0, 9, 16, 13)]) (by decide) rfl (Nat.le_of_ble_eq_true rfl) ?_
  intro p e s m below meth c ls S hr hlk htab hB hl
  obtain ⟨hx, hb, hml, hown, hts⟩ := id S
  obtain ⟨⟨hP, hK⟩, hG, hNc⟩ := hB
  have hPX : va_P G vwCl (wX a C K D Wt O n) s.heap := hP.sub [0, 1, 2, 3, 4] rfl
  have hKX : va_K G vwCl (tX C) s := hK.sub [0, 1, 2, 3] rfl
  have hS : va_S (aXo a oo) s.heap s.heap [] := va_S.rf
  have hl : lv_has ls 5 [(0, .ref (a 0)), (1, .int x0), (2, .int x1), (3, .ref oo)] := hl
  refine lv_aload_n hx hb dL_told_0 rfl (lv_at hl 3 rfl) ?_
  refine lv_iconst (v := 0) hx hb dL_told_1 (by decide) ?_
  refine lv_aload_n hx hb dL_told_2 rfl (lv_at hl 0 rfl) ?_
  refine lv_iload_n hx hb dL_told_3 rfl (lv_at hl 1 rfl) ?_
  refine lv_iload_n hx hb dL_told_4 rfl (lv_at hl 2 rfl) ?_
  refine tx_runV (As := [.int x0, .int x1]) (rest := [.int 0, .ref oo]) S hM (cwV 2 hts (gL_25 tb_cons) rfl rfl rfl (by decide +kernel) ⟨Nat.le_of_ble_eq_true rfl, Nat.le_of_ble_eq_true rfl⟩) (pXb_V hPX hKX hG) rfl hl.1 rfl (lv_room (Nat.le_of_ble_eq_true rfl)) dL_told_5 ⟨Nat.le_of_ble_eq_true rfl, Nat.le_of_ble_eq_true rfl⟩ (fun o st t H1 L h0 h1 ha9 hq hL9 => ?_)
  obtain ⟨x9, ce, ho, h3, h5, h4, h6, h7⟩ := hq
  subst ho
  refine ⟨fun v hv => (by cases hv), fun x hx9 => ?_⟩
  cases hx9
  refine tx_catch1 (x := ⟨0, 9, 12, 19⟩) (rows := [⟨0, 9, 16, 13⟩]) (cls := ENS) htab (by decide) (by decide) hown (hts _ (tb_cons _ w_cl_L_19)) (by rw [← h1]; exact h3) h5 (by rw [← ha9.findClass]; exact h4) ?_
  have hh : ∀ q : Nat, q < s.heap.size → H1[q]? = s.heap[q]? := fun q hq => by rw [← h1, ← h0]; exact h7 q (by rw [h0]; exact hq)
  have hP := keepXo hP hh
  refine lv_astore hx hb dL_told_12 hl (by decide) rfl (fun ls hl => ?_)
  have hl : lv_has ls 5 [(4, .ref x9), (0, .ref (a 0)), (1, .int x0), (2, .int x1), (3, .ref oo)] := hl
  refine lv_iconst (v := 1) hx hb dL_told_14 (by decide) ?_
  exact W.iret hx hb hr (fun u hu _ => ⟨rfl, by rw [hu]; exact hP, by rw [hu, ← h1, ← h0]; exact h6, fun q hq _ => by rw [hu]; exact hh q hq⟩) (fun q hq => (hL9 q hq).elim) dL_told_15
set_option maxHeartbeats 4000000 in
set_option maxRecDepth 100000 in
theorem lw_told_IA (l : Launch) (G : va_G) (a : Nat → Nat) (C : Nat → ClassId) (oo : Nat) (Co : ClassId) (hap : apXo a oo) (K D : Nat → Int64) (Wt O : Nat → Int32) (n : Int32) (f : Nat → Int64) {x0 : Int32} {x1 : Int32} (hM : tx_Met l yX0_told wsX0_told { frames := 6, cells := 1, slots := 6, locals := 90 } (va_Pc [.ref (a 0), .int x0, .int x1] (bX G a C K D Wt O n)) (th_Q EIA) 1 6 (fun _ => False)) : Met l yL_told wsL_told { frames := 8, cells := 1, slots := 6, locals := 150 } (va_Pc [.ref (a 0), .int x0, .int x1, .ref oo] (bXo G a C K D Wt O n oo Co f)) (wr_Q G vwCl (some (.int 2)) (wXo a C K D Wt O n oo Co f) (aXo a oo)) 1 6 (aXo a oo) := by
  refine q_openW (cc := cL_told) (maxL := 5) (ret := (some .int)) (hh := [(0, 9, 12, 19), (0, 9, 16, 13)]) (by decide) rfl (Nat.le_of_ble_eq_true rfl) ?_
  intro p e s m below meth c ls S hr hlk htab hB hl
  obtain ⟨hx, hb, hml, hown, hts⟩ := id S
  obtain ⟨⟨hP, hK⟩, hG, hNc⟩ := hB
  have hPX : va_P G vwCl (wX a C K D Wt O n) s.heap := hP.sub [0, 1, 2, 3, 4] rfl
  have hKX : va_K G vwCl (tX C) s := hK.sub [0, 1, 2, 3] rfl
  have hS : va_S (aXo a oo) s.heap s.heap [] := va_S.rf
  have hl : lv_has ls 5 [(0, .ref (a 0)), (1, .int x0), (2, .int x1), (3, .ref oo)] := hl
  refine lv_aload_n hx hb dL_told_0 rfl (lv_at hl 3 rfl) ?_
  refine lv_iconst (v := 0) hx hb dL_told_1 (by decide) ?_
  refine lv_aload_n hx hb dL_told_2 rfl (lv_at hl 0 rfl) ?_
  refine lv_iload_n hx hb dL_told_3 rfl (lv_at hl 1 rfl) ?_
  refine lv_iload_n hx hb dL_told_4 rfl (lv_at hl 2 rfl) ?_
  refine tx_runV (As := [.int x0, .int x1]) (rest := [.int 0, .ref oo]) S hM (cwV 2 hts (gL_25 tb_cons) rfl rfl rfl (by decide +kernel) ⟨Nat.le_of_ble_eq_true rfl, Nat.le_of_ble_eq_true rfl⟩) (pXb_V hPX hKX hG) rfl hl.1 rfl (lv_room (Nat.le_of_ble_eq_true rfl)) dL_told_5 ⟨Nat.le_of_ble_eq_true rfl, Nat.le_of_ble_eq_true rfl⟩ (fun o st t H1 L h0 h1 ha9 hq hL9 => ?_)
  obtain ⟨x9, ce, ho, h3, h5, h4, h6, h7⟩ := hq
  subst ho
  refine ⟨fun v hv => (by cases hv), fun x hx9 => ?_⟩
  cases hx9
  refine tx_catch2 (x := ⟨0, 9, 12, 19⟩) (y := ⟨0, 9, 16, 13⟩) (rows := []) (cls := EIA) (other := ENS) htab (by decide) (by decide) (by decide) (by decide) hown (hts _ (tb_cons _ w_cl_L_19)) hNc (hts _ (tb_cons _ w_cl_L_13)) (by rw [← h1]; exact h3) h5 (by rw [← ha9.findClass]; exact h4) ?_
  have hh : ∀ q : Nat, q < s.heap.size → H1[q]? = s.heap[q]? := fun q hq => by rw [← h1, ← h0]; exact h7 q (by rw [h0]; exact hq)
  have hP := keepXo hP hh
  refine lv_astore hx hb dL_told_16 hl (by decide) rfl (fun ls hl => ?_)
  have hl : lv_has ls 5 [(4, .ref x9), (0, .ref (a 0)), (1, .int x0), (2, .int x1), (3, .ref oo)] := hl
  refine lv_iconst (v := 2) hx hb dL_told_18 (by decide) ?_
  exact W.iret hx hb hr (fun u hu _ => ⟨rfl, by rw [hu]; exact hP, by rw [hu, ← h1, ← h0]; exact h6, fun q hq _ => by rw [hu]; exact hh q hq⟩) (fun q hq => (hL9 q hq).elim) dL_told_19
set_option maxHeartbeats 4000000 in
set_option maxRecDepth 100000 in
theorem lw_at_ok (l : Launch) (G : va_G) (a : Nat → Nat) (C : Nat → ClassId) (oo : Nat) (Co : ClassId) (hap : apXo a oo) (K D : Nat → Int64) (Wt O : Nat → Int32) (n : Int32) (f : Nat → Int64) {x0 : Int32} {v : Int32} (hM : Met l yX0_at wsX0_at rm0 (va_Pc [.ref (a 0), .int x0] (rX G a C K D Wt O n)) (rd_Q (.int v)) 0 0 (fun _ => False)) : Met l yL_at wsL_at { frames := 8, cells := 1, slots := 6, locals := 150 } (va_Pc [.ref (a 0), .int x0, .ref oo] (bXo G a C K D Wt O n oo Co f)) (wr_Q G vwCl (some (.int 0)) (wXo a C K D Wt O n oo Co (vp_updL f 0 v.toInt64)) (aXo a oo)) 1 6 (aXo a oo) := by
  refine q_openW (cc := cL_at) (maxL := 4) (ret := (some .int)) (hh := [(0, 9, 12, 19)]) (by decide) rfl (Nat.le_of_ble_eq_true rfl) ?_
  intro p e s m below meth c ls S hr hlk htab hB hl
  obtain ⟨hx, hb, hml, hown, hts⟩ := id S
  obtain ⟨⟨hP, hK⟩, hG, hNc⟩ := hB
  have hPX : va_P G vwCl (wX a C K D Wt O n) s.heap := hP.sub [0, 1, 2, 3, 4] rfl
  have hKX : va_K G vwCl (tX C) s := hK.sub [0, 1, 2, 3] rfl
  have hS : va_S (aXo a oo) s.heap s.heap [] := va_S.rf
  have hl : lv_has ls 4 [(0, .ref (a 0)), (1, .int x0), (2, .ref oo)] := hl
  refine lv_aload_n hx hb dL_at_0 rfl (lv_at hl 2 rfl) ?_
  refine lv_iconst (v := 0) hx hb dL_at_1 (by decide) ?_
  refine lv_aload_n hx hb dL_at_2 rfl (lv_at hl 0 rfl) ?_
  refine lv_iload_n hx hb dL_at_3 rfl (lv_at hl 1 rfl) ?_
  refine rd_call (W.runV (As := [.int x0]) (rest := [.int 0, .ref oo]) S hM (cwV 1 hts (gL_29 tb_cons) rfl rfl rfl (by decide +kernel) ⟨Nat.le_of_ble_eq_true rfl, Nat.le_of_ble_eq_true rfl⟩) (pX_V hPX hKX) rfl rfl hl.1 rfl (lv_room (Nat.le_of_ble_eq_true rfl)) dL_at_4 ⟨Nat.zero_le _, Nat.zero_le _⟩) ?_
  refine lv_i2l hx hb dL_at_7 rfl ?_
  refine q_last hx hb hK hP (dXo hap _ _ _ _ _ _ _ _) hS 5 4 rfl rfl 0 rfl (by decide) (by decide) dL_at_8 (fun H locs hP hS => ?_)
  refine lv_goto (tgt := 15) hx hb dL_at_9 (by decide) ?_
  refine lv_iconst (v := 0) hx hb dL_at_15 (by decide) ?_
  refine W.widen (k := 1) (n := 6) (by omega) (by omega) ?_
  exact W.iret hx hb hr (fun t ht _ => ⟨rfl, by rw [ht]; exact hP, hS.F ht⟩) hS.2.2 dL_at_16
set_option maxHeartbeats 4000000 in
set_option maxRecDepth 100000 in
theorem lw_at_NS (l : Launch) (G : va_G) (a : Nat → Nat) (C : Nat → ClassId) (oo : Nat) (Co : ClassId) (hap : apXo a oo) (K D : Nat → Int64) (Wt O : Nat → Int32) (n : Int32) (f : Nat → Int64) {x0 : Int32} (hM : tx_Met l yX0_at wsX0_at { frames := 6, cells := 1, slots := 6, locals := 90 } (va_Pc [.ref (a 0), .int x0] (bX G a C K D Wt O n)) (th_Q ENS) 1 6 (fun _ => False)) : Met l yL_at wsL_at { frames := 8, cells := 1, slots := 6, locals := 150 } (va_Pc [.ref (a 0), .int x0, .ref oo] (bXo G a C K D Wt O n oo Co f)) (wr_Q G vwCl (some (.int 1)) (wXo a C K D Wt O n oo Co f) (aXo a oo)) 1 6 (aXo a oo) := by
  refine q_openW (cc := cL_at) (maxL := 4) (ret := (some .int)) (hh := [(0, 9, 12, 19)]) (by decide) rfl (Nat.le_of_ble_eq_true rfl) ?_
  intro p e s m below meth c ls S hr hlk htab hB hl
  obtain ⟨hx, hb, hml, hown, hts⟩ := id S
  obtain ⟨⟨hP, hK⟩, hG, hNc⟩ := hB
  have hPX : va_P G vwCl (wX a C K D Wt O n) s.heap := hP.sub [0, 1, 2, 3, 4] rfl
  have hKX : va_K G vwCl (tX C) s := hK.sub [0, 1, 2, 3] rfl
  have hS : va_S (aXo a oo) s.heap s.heap [] := va_S.rf
  have hl : lv_has ls 4 [(0, .ref (a 0)), (1, .int x0), (2, .ref oo)] := hl
  refine lv_aload_n hx hb dL_at_0 rfl (lv_at hl 2 rfl) ?_
  refine lv_iconst (v := 0) hx hb dL_at_1 (by decide) ?_
  refine lv_aload_n hx hb dL_at_2 rfl (lv_at hl 0 rfl) ?_
  refine lv_iload_n hx hb dL_at_3 rfl (lv_at hl 1 rfl) ?_
  refine tx_runV (As := [.int x0]) (rest := [.int 0, .ref oo]) S hM (cwV 1 hts (gL_29 tb_cons) rfl rfl rfl (by decide +kernel) ⟨Nat.le_of_ble_eq_true rfl, Nat.le_of_ble_eq_true rfl⟩) (pXb_V hPX hKX hG) rfl hl.1 rfl (lv_room (Nat.le_of_ble_eq_true rfl)) dL_at_4 ⟨Nat.le_of_ble_eq_true rfl, Nat.le_of_ble_eq_true rfl⟩ (fun o st t H1 L h0 h1 ha9 hq hL9 => ?_)
  obtain ⟨x9, ce, ho, h3, h5, h4, h6, h7⟩ := hq
  subst ho
  refine ⟨fun v hv => (by cases hv), fun x hx9 => ?_⟩
  cases hx9
  refine tx_catch1 (x := ⟨0, 9, 12, 19⟩) (rows := []) (cls := ENS) htab (by decide) (by decide) hown (hts _ (tb_cons _ w_cl_L_19)) (by rw [← h1]; exact h3) h5 (by rw [← ha9.findClass]; exact h4) ?_
  have hh : ∀ q : Nat, q < s.heap.size → H1[q]? = s.heap[q]? := fun q hq => by rw [← h1, ← h0]; exact h7 q (by rw [h0]; exact hq)
  have hP := keepXo hP hh
  refine lv_astore_n hx hb dL_at_12 rfl hl (by decide) rfl (fun ls hl => ?_)
  have hl : lv_has ls 4 [(3, .ref x9), (0, .ref (a 0)), (1, .int x0), (2, .ref oo)] := hl
  refine lv_iconst (v := 1) hx hb dL_at_13 (by decide) ?_
  exact W.iret hx hb hr (fun u hu _ => ⟨rfl, by rw [hu]; exact hP, by rw [hu, ← h1, ← h0]; exact h6, fun q hq _ => by rw [hu]; exact hh q hq⟩) (fun q hq => (hL9 q hq).elim) dL_at_14
set_option maxHeartbeats 4000000 in
set_option maxRecDepth 100000 in
theorem lw_rank_ok (l : Launch) (G : va_G) (a : Nat → Nat) (C : Nat → ClassId) (oo : Nat) (Co : ClassId) (hap : apXo a oo) (K D : Nat → Int64) (Wt O : Nat → Int32) (n : Int32) (f : Nat → Int64) {x0 : Int32} {v : Int32} (hM : Met l yX0_rank wsX0_rank { frames := 2, cells := 0, slots := 0, locals := 60 } (va_Pc [.ref (a 0), .int x0] (rX G a C K D Wt O n)) (rd_Q (.int v)) 0 0 (fun _ => False)) : Met l yL_rank wsL_rank { frames := 8, cells := 1, slots := 6, locals := 150 } (va_Pc [.ref (a 0), .int x0, .ref oo] (bXo G a C K D Wt O n oo Co f)) (wr_Q G vwCl (some (.int 0)) (wXo a C K D Wt O n oo Co (vp_updL f 0 v.toInt64)) (aXo a oo)) 1 6 (aXo a oo) := by
  refine q_openW (cc := cL_rank) (maxL := 4) (ret := (some .int)) (hh := [(0, 9, 12, 19)]) (by decide) rfl (Nat.le_of_ble_eq_true rfl) ?_
  intro p e s m below meth c ls S hr hlk htab hB hl
  obtain ⟨hx, hb, hml, hown, hts⟩ := id S
  obtain ⟨⟨hP, hK⟩, hG, hNc⟩ := hB
  have hPX : va_P G vwCl (wX a C K D Wt O n) s.heap := hP.sub [0, 1, 2, 3, 4] rfl
  have hKX : va_K G vwCl (tX C) s := hK.sub [0, 1, 2, 3] rfl
  have hS : va_S (aXo a oo) s.heap s.heap [] := va_S.rf
  have hl : lv_has ls 4 [(0, .ref (a 0)), (1, .int x0), (2, .ref oo)] := hl
  refine lv_aload_n hx hb dL_rank_0 rfl (lv_at hl 2 rfl) ?_
  refine lv_iconst (v := 0) hx hb dL_rank_1 (by decide) ?_
  refine lv_aload_n hx hb dL_rank_2 rfl (lv_at hl 0 rfl) ?_
  refine lv_iload_n hx hb dL_rank_3 rfl (lv_at hl 1 rfl) ?_
  refine rd_call (W.runV (As := [.int x0]) (rest := [.int 0, .ref oo]) S hM (cwV 1 hts (gL_32 tb_cons) rfl rfl rfl (by decide +kernel) ⟨Nat.le_of_ble_eq_true rfl, Nat.le_of_ble_eq_true rfl⟩) (pX_V hPX hKX) rfl rfl hl.1 rfl (lv_room (Nat.le_of_ble_eq_true rfl)) dL_rank_4 ⟨Nat.zero_le _, Nat.zero_le _⟩) ?_
  refine lv_i2l hx hb dL_rank_7 rfl ?_
  refine q_last hx hb hK hP (dXo hap _ _ _ _ _ _ _ _) hS 5 4 rfl rfl 0 rfl (by decide) (by decide) dL_rank_8 (fun H locs hP hS => ?_)
  refine lv_goto (tgt := 15) hx hb dL_rank_9 (by decide) ?_
  refine lv_iconst (v := 0) hx hb dL_rank_15 (by decide) ?_
  refine W.widen (k := 1) (n := 6) (by omega) (by omega) ?_
  exact W.iret hx hb hr (fun t ht _ => ⟨rfl, by rw [ht]; exact hP, hS.F ht⟩) hS.2.2 dL_rank_16
set_option maxHeartbeats 4000000 in
set_option maxRecDepth 100000 in
theorem lw_rank_NS (l : Launch) (G : va_G) (a : Nat → Nat) (C : Nat → ClassId) (oo : Nat) (Co : ClassId) (hap : apXo a oo) (K D : Nat → Int64) (Wt O : Nat → Int32) (n : Int32) (f : Nat → Int64) {x0 : Int32} (hM : tx_Met l yX0_rank wsX0_rank { frames := 6, cells := 1, slots := 6, locals := 90 } (va_Pc [.ref (a 0), .int x0] (bX G a C K D Wt O n)) (th_Q ENS) 1 6 (fun _ => False)) : Met l yL_rank wsL_rank { frames := 8, cells := 1, slots := 6, locals := 150 } (va_Pc [.ref (a 0), .int x0, .ref oo] (bXo G a C K D Wt O n oo Co f)) (wr_Q G vwCl (some (.int 1)) (wXo a C K D Wt O n oo Co f) (aXo a oo)) 1 6 (aXo a oo) := by
  refine q_openW (cc := cL_rank) (maxL := 4) (ret := (some .int)) (hh := [(0, 9, 12, 19)]) (by decide) rfl (Nat.le_of_ble_eq_true rfl) ?_
  intro p e s m below meth c ls S hr hlk htab hB hl
  obtain ⟨hx, hb, hml, hown, hts⟩ := id S
  obtain ⟨⟨hP, hK⟩, hG, hNc⟩ := hB
  have hPX : va_P G vwCl (wX a C K D Wt O n) s.heap := hP.sub [0, 1, 2, 3, 4] rfl
  have hKX : va_K G vwCl (tX C) s := hK.sub [0, 1, 2, 3] rfl
  have hS : va_S (aXo a oo) s.heap s.heap [] := va_S.rf
  have hl : lv_has ls 4 [(0, .ref (a 0)), (1, .int x0), (2, .ref oo)] := hl
  refine lv_aload_n hx hb dL_rank_0 rfl (lv_at hl 2 rfl) ?_
  refine lv_iconst (v := 0) hx hb dL_rank_1 (by decide) ?_
  refine lv_aload_n hx hb dL_rank_2 rfl (lv_at hl 0 rfl) ?_
  refine lv_iload_n hx hb dL_rank_3 rfl (lv_at hl 1 rfl) ?_
  refine tx_runV (As := [.int x0]) (rest := [.int 0, .ref oo]) S hM (cwV 1 hts (gL_32 tb_cons) rfl rfl rfl (by decide +kernel) ⟨Nat.le_of_ble_eq_true rfl, Nat.le_of_ble_eq_true rfl⟩) (pXb_V hPX hKX hG) rfl hl.1 rfl (lv_room (Nat.le_of_ble_eq_true rfl)) dL_rank_4 ⟨Nat.le_of_ble_eq_true rfl, Nat.le_of_ble_eq_true rfl⟩ (fun o st t H1 L h0 h1 ha9 hq hL9 => ?_)
  obtain ⟨x9, ce, ho, h3, h5, h4, h6, h7⟩ := hq
  subst ho
  refine ⟨fun v hv => (by cases hv), fun x hx9 => ?_⟩
  cases hx9
  refine tx_catch1 (x := ⟨0, 9, 12, 19⟩) (rows := []) (cls := ENS) htab (by decide) (by decide) hown (hts _ (tb_cons _ w_cl_L_19)) (by rw [← h1]; exact h3) h5 (by rw [← ha9.findClass]; exact h4) ?_
  have hh : ∀ q : Nat, q < s.heap.size → H1[q]? = s.heap[q]? := fun q hq => by rw [← h1, ← h0]; exact h7 q (by rw [h0]; exact hq)
  have hP := keepXo hP hh
  refine lv_astore_n hx hb dL_rank_12 rfl hl (by decide) rfl (fun ls hl => ?_)
  have hl : lv_has ls 4 [(3, .ref x9), (0, .ref (a 0)), (1, .int x0), (2, .ref oo)] := hl
  refine lv_iconst (v := 1) hx hb dL_rank_13 (by decide) ?_
  exact W.iret hx hb hr (fun u hu _ => ⟨rfl, by rw [hu]; exact hP, by rw [hu, ← h1, ← h0]; exact h6, fun q hq _ => by rw [hu]; exact hh q hq⟩) (fun q hq => (hL9 q hq).elim) dL_rank_14
set_option maxHeartbeats 4000000 in
set_option maxRecDepth 100000 in
theorem lw_earliest_ok (l : Launch) (G : va_G) (a : Nat → Nat) (C : Nat → ClassId) (oo : Nat) (Co : ClassId) (hap : apXo a oo) (K D : Nat → Int64) (Wt O : Nat → Int32) (n : Int32) (f : Nat → Int64) {x0 : Int64} {v : Int32} (hM : Met l yX0_earliest wsX0_earliest { frames := 3, cells := 0, slots := 0, locals := 90 } (va_Pc [.ref (a 0), .long x0] (rX G a C K D Wt O n)) (rd_Q (.int v)) 0 0 (fun _ => False)) : Met l yL_earliest wsL_earliest { frames := 8, cells := 1, slots := 6, locals := 150 } (va_Pc [.ref (a 0), .long x0, .ref oo] (bXo G a C K D Wt O n oo Co f)) (wr_Q G vwCl (some (.int 0)) (wXo a C K D Wt O n oo Co (vp_updL f 0 v.toInt64)) (aXo a oo)) 1 6 (aXo a oo) := by
  refine q_openW (cc := cL_earliest) (maxL := 5) (ret := (some .int)) (hh := [(0, 9, 12, 19)]) (by decide) rfl (Nat.le_of_ble_eq_true rfl) ?_
  intro p e s m below meth c ls S hr hlk htab hB hl
  obtain ⟨hx, hb, hml, hown, hts⟩ := id S
  obtain ⟨⟨hP, hK⟩, hG, hNc⟩ := hB
  have hPX : va_P G vwCl (wX a C K D Wt O n) s.heap := hP.sub [0, 1, 2, 3, 4] rfl
  have hKX : va_K G vwCl (tX C) s := hK.sub [0, 1, 2, 3] rfl
  have hS : va_S (aXo a oo) s.heap s.heap [] := va_S.rf
  have hl : lv_has ls 5 [(0, .ref (a 0)), (1, .long x0), (3, .ref oo)] := hl
  refine lv_aload_n hx hb dL_earliest_0 rfl (lv_at hl 2 rfl) ?_
  refine lv_iconst (v := 0) hx hb dL_earliest_1 (by decide) ?_
  refine lv_aload_n hx hb dL_earliest_2 rfl (lv_at hl 0 rfl) ?_
  refine lv_lload_n hx hb dL_earliest_3 rfl (lv_at hl 1 rfl) ?_
  refine rd_call (W.runV (As := [.long x0]) (rest := [.int 0, .ref oo]) S hM (cwV 1 hts (gL_35 tb_cons) rfl rfl rfl (by decide +kernel) ⟨Nat.le_of_ble_eq_true rfl, Nat.le_of_ble_eq_true rfl⟩) (pX_V hPX hKX) rfl rfl hl.1 rfl (lv_room (Nat.le_of_ble_eq_true rfl)) dL_earliest_4 ⟨Nat.zero_le _, Nat.zero_le _⟩) ?_
  refine lv_i2l hx hb dL_earliest_7 rfl ?_
  refine q_last hx hb hK hP (dXo hap _ _ _ _ _ _ _ _) hS 5 4 rfl rfl 0 rfl (by decide) (by decide) dL_earliest_8 (fun H locs hP hS => ?_)
  refine lv_goto (tgt := 16) hx hb dL_earliest_9 (by decide) ?_
  refine lv_iconst (v := 0) hx hb dL_earliest_16 (by decide) ?_
  refine W.widen (k := 1) (n := 6) (by omega) (by omega) ?_
  exact W.iret hx hb hr (fun t ht _ => ⟨rfl, by rw [ht]; exact hP, hS.F ht⟩) hS.2.2 dL_earliest_17
set_option maxHeartbeats 4000000 in
set_option maxRecDepth 100000 in
theorem lw_earliest_NS (l : Launch) (G : va_G) (a : Nat → Nat) (C : Nat → ClassId) (oo : Nat) (Co : ClassId) (hap : apXo a oo) (K D : Nat → Int64) (Wt O : Nat → Int32) (n : Int32) (f : Nat → Int64) {x0 : Int64} (hM : tx_Met l yX0_earliest wsX0_earliest { frames := 7, cells := 1, slots := 6, locals := 120 } (va_Pc [.ref (a 0), .long x0] (bX G a C K D Wt O n)) (th_Q ENS) 1 6 (fun _ => False)) : Met l yL_earliest wsL_earliest { frames := 8, cells := 1, slots := 6, locals := 150 } (va_Pc [.ref (a 0), .long x0, .ref oo] (bXo G a C K D Wt O n oo Co f)) (wr_Q G vwCl (some (.int 1)) (wXo a C K D Wt O n oo Co f) (aXo a oo)) 1 6 (aXo a oo) := by
  refine q_openW (cc := cL_earliest) (maxL := 5) (ret := (some .int)) (hh := [(0, 9, 12, 19)]) (by decide) rfl (Nat.le_of_ble_eq_true rfl) ?_
  intro p e s m below meth c ls S hr hlk htab hB hl
  obtain ⟨hx, hb, hml, hown, hts⟩ := id S
  obtain ⟨⟨hP, hK⟩, hG, hNc⟩ := hB
  have hPX : va_P G vwCl (wX a C K D Wt O n) s.heap := hP.sub [0, 1, 2, 3, 4] rfl
  have hKX : va_K G vwCl (tX C) s := hK.sub [0, 1, 2, 3] rfl
  have hS : va_S (aXo a oo) s.heap s.heap [] := va_S.rf
  have hl : lv_has ls 5 [(0, .ref (a 0)), (1, .long x0), (3, .ref oo)] := hl
  refine lv_aload_n hx hb dL_earliest_0 rfl (lv_at hl 2 rfl) ?_
  refine lv_iconst (v := 0) hx hb dL_earliest_1 (by decide) ?_
  refine lv_aload_n hx hb dL_earliest_2 rfl (lv_at hl 0 rfl) ?_
  refine lv_lload_n hx hb dL_earliest_3 rfl (lv_at hl 1 rfl) ?_
  refine tx_runV (As := [.long x0]) (rest := [.int 0, .ref oo]) S hM (cwV 1 hts (gL_35 tb_cons) rfl rfl rfl (by decide +kernel) ⟨Nat.le_of_ble_eq_true rfl, Nat.le_of_ble_eq_true rfl⟩) (pXb_V hPX hKX hG) rfl hl.1 rfl (lv_room (Nat.le_of_ble_eq_true rfl)) dL_earliest_4 ⟨Nat.le_of_ble_eq_true rfl, Nat.le_of_ble_eq_true rfl⟩ (fun o st t H1 L h0 h1 ha9 hq hL9 => ?_)
  obtain ⟨x9, ce, ho, h3, h5, h4, h6, h7⟩ := hq
  subst ho
  refine ⟨fun v hv => (by cases hv), fun x hx9 => ?_⟩
  cases hx9
  refine tx_catch1 (x := ⟨0, 9, 12, 19⟩) (rows := []) (cls := ENS) htab (by decide) (by decide) hown (hts _ (tb_cons _ w_cl_L_19)) (by rw [← h1]; exact h3) h5 (by rw [← ha9.findClass]; exact h4) ?_
  have hh : ∀ q : Nat, q < s.heap.size → H1[q]? = s.heap[q]? := fun q hq => by rw [← h1, ← h0]; exact h7 q (by rw [h0]; exact hq)
  have hP := keepXo hP hh
  refine lv_astore hx hb dL_earliest_12 hl (by decide) rfl (fun ls hl => ?_)
  have hl : lv_has ls 5 [(4, .ref x9), (0, .ref (a 0)), (1, .long x0), (3, .ref oo)] := hl
  refine lv_iconst (v := 1) hx hb dL_earliest_14 (by decide) ?_
  exact W.iret hx hb hr (fun u hu _ => ⟨rfl, by rw [hu]; exact hP, by rw [hu, ← h1, ← h0]; exact h6, fun q hq _ => by rw [hu]; exact hh q hq⟩) (fun q hq => (hL9 q hq).elim) dL_earliest_15
set_option maxHeartbeats 4000000 in
set_option maxRecDepth 100000 in
theorem lw_between_ok (l : Launch) (G : va_G) (a : Nat → Nat) (C : Nat → ClassId) (oo : Nat) (Co : ClassId) (hap : apXo a oo) (K D : Nat → Int64) (Wt O : Nat → Int32) (n : Int32) (f : Nat → Int64) {x0 : Int64} {x1 : Int64} {v : Int32} (hM : Met l yX0_between wsX0_between { frames := 3, cells := 0, slots := 0, locals := 90 } (va_Pc [.ref (a 0), .long x0, .long x1] (rX G a C K D Wt O n)) (rd_Q (.int v)) 0 0 (fun _ => False)) : Met l yL_between wsL_between { frames := 8, cells := 1, slots := 6, locals := 150 } (va_Pc [.ref (a 0), .long x0, .long x1, .ref oo] (bXo G a C K D Wt O n oo Co f)) (wr_Q G vwCl (some (.int 0)) (wXo a C K D Wt O n oo Co (vp_updL f 0 v.toInt64)) (aXo a oo)) 1 6 (aXo a oo) := by
  refine q_openW (cc := cL_between) (maxL := 7) (ret := (some .int)) (hh := [(0, 11, 14, 19)]) (by decide) rfl (Nat.le_of_ble_eq_true rfl) ?_
  intro p e s m below meth c ls S hr hlk htab hB hl
  obtain ⟨hx, hb, hml, hown, hts⟩ := id S
  obtain ⟨⟨hP, hK⟩, hG, hNc⟩ := hB
  have hPX : va_P G vwCl (wX a C K D Wt O n) s.heap := hP.sub [0, 1, 2, 3, 4] rfl
  have hKX : va_K G vwCl (tX C) s := hK.sub [0, 1, 2, 3] rfl
  have hS : va_S (aXo a oo) s.heap s.heap [] := va_S.rf
  have hl : lv_has ls 7 [(0, .ref (a 0)), (1, .long x0), (3, .long x1), (5, .ref oo)] := hl
  refine lv_aload hx hb dL_between_0 (lv_at hl 3 rfl) ?_
  refine lv_iconst (v := 0) hx hb dL_between_2 (by decide) ?_
  refine lv_aload_n hx hb dL_between_3 rfl (lv_at hl 0 rfl) ?_
  refine lv_lload_n hx hb dL_between_4 rfl (lv_at hl 1 rfl) ?_
  refine lv_lload_n hx hb dL_between_5 rfl (lv_at hl 2 rfl) ?_
  refine rd_call (W.runV (As := [.long x0, .long x1]) (rest := [.int 0, .ref oo]) S hM (cwV 2 hts (gL_39 tb_cons) rfl rfl rfl (by decide +kernel) ⟨Nat.le_of_ble_eq_true rfl, Nat.le_of_ble_eq_true rfl⟩) (pX_V hPX hKX) rfl rfl hl.1 rfl (lv_room (Nat.le_of_ble_eq_true rfl)) dL_between_6 ⟨Nat.zero_le _, Nat.zero_le _⟩) ?_
  refine lv_i2l hx hb dL_between_9 rfl ?_
  refine q_last hx hb hK hP (dXo hap _ _ _ _ _ _ _ _) hS 5 4 rfl rfl 0 rfl (by decide) (by decide) dL_between_10 (fun H locs hP hS => ?_)
  refine lv_goto (tgt := 18) hx hb dL_between_11 (by decide) ?_
  refine lv_iconst (v := 0) hx hb dL_between_18 (by decide) ?_
  refine W.widen (k := 1) (n := 6) (by omega) (by omega) ?_
  exact W.iret hx hb hr (fun t ht _ => ⟨rfl, by rw [ht]; exact hP, hS.F ht⟩) hS.2.2 dL_between_19
set_option maxHeartbeats 4000000 in
set_option maxRecDepth 100000 in
theorem lw_between_NS (l : Launch) (G : va_G) (a : Nat → Nat) (C : Nat → ClassId) (oo : Nat) (Co : ClassId) (hap : apXo a oo) (K D : Nat → Int64) (Wt O : Nat → Int32) (n : Int32) (f : Nat → Int64) {x0 : Int64} {x1 : Int64} (hM : tx_Met l yX0_between wsX0_between { frames := 7, cells := 1, slots := 6, locals := 120 } (va_Pc [.ref (a 0), .long x0, .long x1] (bX G a C K D Wt O n)) (th_Q ENS) 1 6 (fun _ => False)) : Met l yL_between wsL_between { frames := 8, cells := 1, slots := 6, locals := 150 } (va_Pc [.ref (a 0), .long x0, .long x1, .ref oo] (bXo G a C K D Wt O n oo Co f)) (wr_Q G vwCl (some (.int 1)) (wXo a C K D Wt O n oo Co f) (aXo a oo)) 1 6 (aXo a oo) := by
  refine q_openW (cc := cL_between) (maxL := 7) (ret := (some .int)) (hh := [(0, 11, 14, 19)]) (by decide) rfl (Nat.le_of_ble_eq_true rfl) ?_
  intro p e s m below meth c ls S hr hlk htab hB hl
  obtain ⟨hx, hb, hml, hown, hts⟩ := id S
  obtain ⟨⟨hP, hK⟩, hG, hNc⟩ := hB
  have hPX : va_P G vwCl (wX a C K D Wt O n) s.heap := hP.sub [0, 1, 2, 3, 4] rfl
  have hKX : va_K G vwCl (tX C) s := hK.sub [0, 1, 2, 3] rfl
  have hS : va_S (aXo a oo) s.heap s.heap [] := va_S.rf
  have hl : lv_has ls 7 [(0, .ref (a 0)), (1, .long x0), (3, .long x1), (5, .ref oo)] := hl
  refine lv_aload hx hb dL_between_0 (lv_at hl 3 rfl) ?_
  refine lv_iconst (v := 0) hx hb dL_between_2 (by decide) ?_
  refine lv_aload_n hx hb dL_between_3 rfl (lv_at hl 0 rfl) ?_
  refine lv_lload_n hx hb dL_between_4 rfl (lv_at hl 1 rfl) ?_
  refine lv_lload_n hx hb dL_between_5 rfl (lv_at hl 2 rfl) ?_
  refine tx_runV (As := [.long x0, .long x1]) (rest := [.int 0, .ref oo]) S hM (cwV 2 hts (gL_39 tb_cons) rfl rfl rfl (by decide +kernel) ⟨Nat.le_of_ble_eq_true rfl, Nat.le_of_ble_eq_true rfl⟩) (pXb_V hPX hKX hG) rfl hl.1 rfl (lv_room (Nat.le_of_ble_eq_true rfl)) dL_between_6 ⟨Nat.le_of_ble_eq_true rfl, Nat.le_of_ble_eq_true rfl⟩ (fun o st t H1 L h0 h1 ha9 hq hL9 => ?_)
  obtain ⟨x9, ce, ho, h3, h5, h4, h6, h7⟩ := hq
  subst ho
  refine ⟨fun v hv => (by cases hv), fun x hx9 => ?_⟩
  cases hx9
  refine tx_catch1 (x := ⟨0, 11, 14, 19⟩) (rows := []) (cls := ENS) htab (by decide) (by decide) hown (hts _ (tb_cons _ w_cl_L_19)) (by rw [← h1]; exact h3) h5 (by rw [← ha9.findClass]; exact h4) ?_
  have hh : ∀ q : Nat, q < s.heap.size → H1[q]? = s.heap[q]? := fun q hq => by rw [← h1, ← h0]; exact h7 q (by rw [h0]; exact hq)
  have hP := keepXo hP hh
  refine lv_astore hx hb dL_between_14 hl (by decide) rfl (fun ls hl => ?_)
  have hl : lv_has ls 7 [(6, .ref x9), (0, .ref (a 0)), (1, .long x0), (3, .long x1), (5, .ref oo)] := hl
  refine lv_iconst (v := 1) hx hb dL_between_16 (by decide) ?_
  exact W.iret hx hb hr (fun u hu _ => ⟨rfl, by rw [hu]; exact hP, by rw [hu, ← h1, ← h0]; exact h6, fun q hq _ => by rw [hu]; exact hh q hq⟩) (fun q hq => (hL9 q hq).elim) dL_between_17
set_option maxHeartbeats 4000000 in
set_option maxRecDepth 100000 in
theorem lw_pick_ok (l : Launch) (G : va_G) (a : Nat → Nat) (C : Nat → ClassId) (oo : Nat) (Co : ClassId) (hap : apXo a oo) (K D : Nat → Int64) (Wt O : Nat → Int32) (n : Int32) (f : Nat → Int64) {v : Int32} (hM : Met l yX0_pick wsX0_pick { frames := 3, cells := 0, slots := 0, locals := 90 } (va_Pc [.ref (a 0)] (rX G a C K D Wt O n)) (rd_Q (.int v)) 0 0 (fun _ => False)) : Met l yL_pick wsL_pick { frames := 8, cells := 1, slots := 6, locals := 150 } (va_Pc [.ref (a 0), .ref oo] (bXo G a C K D Wt O n oo Co f)) (wr_Q G vwCl (some (.int 0)) (wXo a C K D Wt O n oo Co (vp_updL f 0 v.toInt64)) (aXo a oo)) 1 6 (aXo a oo) := by
  refine q_openW (cc := cL_pick) (maxL := 3) (ret := (some .int)) (hh := [(0, 8, 11, 19)]) (by decide) rfl (Nat.le_of_ble_eq_true rfl) ?_
  intro p e s m below meth c ls S hr hlk htab hB hl
  obtain ⟨hx, hb, hml, hown, hts⟩ := id S
  obtain ⟨⟨hP, hK⟩, hG, hNc⟩ := hB
  have hPX : va_P G vwCl (wX a C K D Wt O n) s.heap := hP.sub [0, 1, 2, 3, 4] rfl
  have hKX : va_K G vwCl (tX C) s := hK.sub [0, 1, 2, 3] rfl
  have hS : va_S (aXo a oo) s.heap s.heap [] := va_S.rf
  have hl : lv_has ls 3 [(0, .ref (a 0)), (1, .ref oo)] := hl
  refine lv_aload_n hx hb dL_pick_0 rfl (lv_at hl 1 rfl) ?_
  refine lv_iconst (v := 0) hx hb dL_pick_1 (by decide) ?_
  refine lv_aload_n hx hb dL_pick_2 rfl (lv_at hl 0 rfl) ?_
  refine rd_call (W.runV (As := []) (rest := [.int 0, .ref oo]) S hM (cwV 0 hts (gL_43 tb_cons) rfl rfl rfl (by decide +kernel) ⟨Nat.le_of_ble_eq_true rfl, Nat.le_of_ble_eq_true rfl⟩) (pX_V hPX hKX) rfl rfl hl.1 rfl (lv_room (Nat.le_of_ble_eq_true rfl)) dL_pick_3 ⟨Nat.zero_le _, Nat.zero_le _⟩) ?_
  refine lv_i2l hx hb dL_pick_6 rfl ?_
  refine q_last hx hb hK hP (dXo hap _ _ _ _ _ _ _ _) hS 5 4 rfl rfl 0 rfl (by decide) (by decide) dL_pick_7 (fun H locs hP hS => ?_)
  refine lv_goto (tgt := 14) hx hb dL_pick_8 (by decide) ?_
  refine lv_iconst (v := 0) hx hb dL_pick_14 (by decide) ?_
  refine W.widen (k := 1) (n := 6) (by omega) (by omega) ?_
  exact W.iret hx hb hr (fun t ht _ => ⟨rfl, by rw [ht]; exact hP, hS.F ht⟩) hS.2.2 dL_pick_15
set_option maxHeartbeats 4000000 in
set_option maxRecDepth 100000 in
theorem lw_pick_NS (l : Launch) (G : va_G) (a : Nat → Nat) (C : Nat → ClassId) (oo : Nat) (Co : ClassId) (hap : apXo a oo) (K D : Nat → Int64) (Wt O : Nat → Int32) (n : Int32) (f : Nat → Int64) (hM : tx_Met l yX0_pick wsX0_pick { frames := 7, cells := 1, slots := 6, locals := 120 } (va_Pc [.ref (a 0)] (bX G a C K D Wt O n)) (th_Q ENS) 1 6 (fun _ => False)) : Met l yL_pick wsL_pick { frames := 8, cells := 1, slots := 6, locals := 150 } (va_Pc [.ref (a 0), .ref oo] (bXo G a C K D Wt O n oo Co f)) (wr_Q G vwCl (some (.int 1)) (wXo a C K D Wt O n oo Co f) (aXo a oo)) 1 6 (aXo a oo) := by
  refine q_openW (cc := cL_pick) (maxL := 3) (ret := (some .int)) (hh := [(0, 8, 11, 19)]) (by decide) rfl (Nat.le_of_ble_eq_true rfl) ?_
  intro p e s m below meth c ls S hr hlk htab hB hl
  obtain ⟨hx, hb, hml, hown, hts⟩ := id S
  obtain ⟨⟨hP, hK⟩, hG, hNc⟩ := hB
  have hPX : va_P G vwCl (wX a C K D Wt O n) s.heap := hP.sub [0, 1, 2, 3, 4] rfl
  have hKX : va_K G vwCl (tX C) s := hK.sub [0, 1, 2, 3] rfl
  have hS : va_S (aXo a oo) s.heap s.heap [] := va_S.rf
  have hl : lv_has ls 3 [(0, .ref (a 0)), (1, .ref oo)] := hl
  refine lv_aload_n hx hb dL_pick_0 rfl (lv_at hl 1 rfl) ?_
  refine lv_iconst (v := 0) hx hb dL_pick_1 (by decide) ?_
  refine lv_aload_n hx hb dL_pick_2 rfl (lv_at hl 0 rfl) ?_
  refine tx_runV (As := []) (rest := [.int 0, .ref oo]) S hM (cwV 0 hts (gL_43 tb_cons) rfl rfl rfl (by decide +kernel) ⟨Nat.le_of_ble_eq_true rfl, Nat.le_of_ble_eq_true rfl⟩) (pXb_V hPX hKX hG) rfl hl.1 rfl (lv_room (Nat.le_of_ble_eq_true rfl)) dL_pick_3 ⟨Nat.le_of_ble_eq_true rfl, Nat.le_of_ble_eq_true rfl⟩ (fun o st t H1 L h0 h1 ha9 hq hL9 => ?_)
  obtain ⟨x9, ce, ho, h3, h5, h4, h6, h7⟩ := hq
  subst ho
  refine ⟨fun v hv => (by cases hv), fun x hx9 => ?_⟩
  cases hx9
  refine tx_catch1 (x := ⟨0, 8, 11, 19⟩) (rows := []) (cls := ENS) htab (by decide) (by decide) hown (hts _ (tb_cons _ w_cl_L_19)) (by rw [← h1]; exact h3) h5 (by rw [← ha9.findClass]; exact h4) ?_
  have hh : ∀ q : Nat, q < s.heap.size → H1[q]? = s.heap[q]? := fun q hq => by rw [← h1, ← h0]; exact h7 q (by rw [h0]; exact hq)
  have hP := keepXo hP hh
  refine lv_astore_n hx hb dL_pick_11 rfl hl (by decide) rfl (fun ls hl => ?_)
  have hl : lv_has ls 3 [(2, .ref x9), (0, .ref (a 0)), (1, .ref oo)] := hl
  refine lv_iconst (v := 1) hx hb dL_pick_12 (by decide) ?_
  exact W.iret hx hb hr (fun u hu _ => ⟨rfl, by rw [hu]; exact hP, by rw [hu, ← h1, ← h0]; exact h6, fun q hq _ => by rw [hu]; exact hh q hq⟩) (fun q hq => (hL9 q hq).elim) dL_pick_13
set_option maxHeartbeats 4000000 in
set_option maxRecDepth 100000 in
theorem lw_ahead_ok (l : Launch) (G : va_G) (a : Nat → Nat) (C : Nat → ClassId) (oo : Nat) (Co : ClassId) (hap : apXo a oo) (K D : Nat → Int64) (Wt O : Nat → Int32) (n : Int32) (f : Nat → Int64) {x0 : Int32} {v : Int64} (hM : Met l yX0_ahead wsX0_ahead { frames := 3, cells := 0, slots := 0, locals := 90 } (va_Pc [.ref (a 0), .int x0] (rX G a C K D Wt O n)) (rd_Q (.long v)) 0 0 (fun _ => False)) : Met l yL_ahead wsL_ahead { frames := 8, cells := 1, slots := 6, locals := 150 } (va_Pc [.ref (a 0), .int x0, .ref oo] (bXo G a C K D Wt O n oo Co f)) (wr_Q G vwCl (some (.int 0)) (wXo a C K D Wt O n oo Co (vp_updL f 0 v)) (aXo a oo)) 1 6 (aXo a oo) := by
  refine q_openW (cc := cL_ahead) (maxL := 4) (ret := (some .int)) (hh := [(0, 8, 11, 19)]) (by decide) rfl (Nat.le_of_ble_eq_true rfl) ?_
  intro p e s m below meth c ls S hr hlk htab hB hl
  obtain ⟨hx, hb, hml, hown, hts⟩ := id S
  obtain ⟨⟨hP, hK⟩, hG, hNc⟩ := hB
  have hPX : va_P G vwCl (wX a C K D Wt O n) s.heap := hP.sub [0, 1, 2, 3, 4] rfl
  have hKX : va_K G vwCl (tX C) s := hK.sub [0, 1, 2, 3] rfl
  have hS : va_S (aXo a oo) s.heap s.heap [] := va_S.rf
  have hl : lv_has ls 4 [(0, .ref (a 0)), (1, .int x0), (2, .ref oo)] := hl
  refine lv_aload_n hx hb dL_ahead_0 rfl (lv_at hl 2 rfl) ?_
  refine lv_iconst (v := 0) hx hb dL_ahead_1 (by decide) ?_
  refine lv_aload_n hx hb dL_ahead_2 rfl (lv_at hl 0 rfl) ?_
  refine lv_iload_n hx hb dL_ahead_3 rfl (lv_at hl 1 rfl) ?_
  refine rd_call (W.runV (As := [.int x0]) (rest := [.int 0, .ref oo]) S hM (cwV 1 hts (gL_47 tb_cons) rfl rfl rfl (by decide +kernel) ⟨Nat.le_of_ble_eq_true rfl, Nat.le_of_ble_eq_true rfl⟩) (pX_V hPX hKX) rfl rfl hl.1 rfl (lv_room (Nat.le_of_ble_eq_true rfl)) dL_ahead_4 ⟨Nat.zero_le _, Nat.zero_le _⟩) ?_
  refine q_last hx hb hK hP (dXo hap _ _ _ _ _ _ _ _) hS 5 4 rfl rfl 0 rfl (by decide) (by decide) dL_ahead_7 (fun H locs hP hS => ?_)
  refine lv_goto (tgt := 14) hx hb dL_ahead_8 (by decide) ?_
  refine lv_iconst (v := 0) hx hb dL_ahead_14 (by decide) ?_
  refine W.widen (k := 1) (n := 6) (by omega) (by omega) ?_
  exact W.iret hx hb hr (fun t ht _ => ⟨rfl, by rw [ht]; exact hP, hS.F ht⟩) hS.2.2 dL_ahead_15
set_option maxHeartbeats 4000000 in
set_option maxRecDepth 100000 in
theorem lw_ahead_NS (l : Launch) (G : va_G) (a : Nat → Nat) (C : Nat → ClassId) (oo : Nat) (Co : ClassId) (hap : apXo a oo) (K D : Nat → Int64) (Wt O : Nat → Int32) (n : Int32) (f : Nat → Int64) {x0 : Int32} (hM : tx_Met l yX0_ahead wsX0_ahead { frames := 6, cells := 1, slots := 6, locals := 90 } (va_Pc [.ref (a 0), .int x0] (bX G a C K D Wt O n)) (th_Q ENS) 1 6 (fun _ => False)) : Met l yL_ahead wsL_ahead { frames := 8, cells := 1, slots := 6, locals := 150 } (va_Pc [.ref (a 0), .int x0, .ref oo] (bXo G a C K D Wt O n oo Co f)) (wr_Q G vwCl (some (.int 1)) (wXo a C K D Wt O n oo Co f) (aXo a oo)) 1 6 (aXo a oo) := by
  refine q_openW (cc := cL_ahead) (maxL := 4) (ret := (some .int)) (hh := [(0, 8, 11, 19)]) (by decide) rfl (Nat.le_of_ble_eq_true rfl) ?_
  intro p e s m below meth c ls S hr hlk htab hB hl
  obtain ⟨hx, hb, hml, hown, hts⟩ := id S
  obtain ⟨⟨hP, hK⟩, hG, hNc⟩ := hB
  have hPX : va_P G vwCl (wX a C K D Wt O n) s.heap := hP.sub [0, 1, 2, 3, 4] rfl
  have hKX : va_K G vwCl (tX C) s := hK.sub [0, 1, 2, 3] rfl
  have hS : va_S (aXo a oo) s.heap s.heap [] := va_S.rf
  have hl : lv_has ls 4 [(0, .ref (a 0)), (1, .int x0), (2, .ref oo)] := hl
  refine lv_aload_n hx hb dL_ahead_0 rfl (lv_at hl 2 rfl) ?_
  refine lv_iconst (v := 0) hx hb dL_ahead_1 (by decide) ?_
  refine lv_aload_n hx hb dL_ahead_2 rfl (lv_at hl 0 rfl) ?_
  refine lv_iload_n hx hb dL_ahead_3 rfl (lv_at hl 1 rfl) ?_
  refine tx_runV (As := [.int x0]) (rest := [.int 0, .ref oo]) S hM (cwV 1 hts (gL_47 tb_cons) rfl rfl rfl (by decide +kernel) ⟨Nat.le_of_ble_eq_true rfl, Nat.le_of_ble_eq_true rfl⟩) (pXb_V hPX hKX hG) rfl hl.1 rfl (lv_room (Nat.le_of_ble_eq_true rfl)) dL_ahead_4 ⟨Nat.le_of_ble_eq_true rfl, Nat.le_of_ble_eq_true rfl⟩ (fun o st t H1 L h0 h1 ha9 hq hL9 => ?_)
  obtain ⟨x9, ce, ho, h3, h5, h4, h6, h7⟩ := hq
  subst ho
  refine ⟨fun v hv => (by cases hv), fun x hx9 => ?_⟩
  cases hx9
  refine tx_catch1 (x := ⟨0, 8, 11, 19⟩) (rows := []) (cls := ENS) htab (by decide) (by decide) hown (hts _ (tb_cons _ w_cl_L_19)) (by rw [← h1]; exact h3) h5 (by rw [← ha9.findClass]; exact h4) ?_
  have hh : ∀ q : Nat, q < s.heap.size → H1[q]? = s.heap[q]? := fun q hq => by rw [← h1, ← h0]; exact h7 q (by rw [h0]; exact hq)
  have hP := keepXo hP hh
  refine lv_astore_n hx hb dL_ahead_11 rfl hl (by decide) rfl (fun ls hl => ?_)
  have hl : lv_has ls 4 [(3, .ref x9), (0, .ref (a 0)), (1, .int x0), (2, .ref oo)] := hl
  refine lv_iconst (v := 1) hx hb dL_ahead_12 (by decide) ?_
  exact W.iret hx hb hr (fun u hu _ => ⟨rfl, by rw [hu]; exact hP, by rw [hu, ← h1, ← h0]; exact h6, fun q hq _ => by rw [hu]; exact hh q hq⟩) (fun q hq => (hL9 q hq).elim) dL_ahead_13
set_option maxHeartbeats 4000000 in
set_option maxRecDepth 100000 in
theorem lw_half_ok (l : Launch) (G : va_G) (a : Nat → Nat) (C : Nat → ClassId) (oo : Nat) (Co : ClassId) (hap : apXo a oo) (K D : Nat → Int64) (Wt O : Nat → Int32) (n : Int32) (f : Nat → Int64) {v : Int32} (hM : Met l yX0_half wsX0_half { frames := 1, cells := 0, slots := 0, locals := 30 } (va_Pc [.ref (a 0)] (rX G a C K D Wt O n)) (rd_Q (.int v)) 0 0 (fun _ => False)) : Met l yL_half wsL_half { frames := 8, cells := 1, slots := 6, locals := 150 } (va_Pc [.ref (a 0), .ref oo] (bXo G a C K D Wt O n oo Co f)) (wr_Q G vwCl (some (.int 0)) (wXo a C K D Wt O n oo Co (vp_updL f 0 v.toInt64)) (aXo a oo)) 1 6 (aXo a oo) := by
  refine q_openW (cc := cL_half) (maxL := 3) (ret := (some .int)) (hh := [(0, 8, 11, 19)]) (by decide) rfl (Nat.le_of_ble_eq_true rfl) ?_
  intro p e s m below meth c ls S hr hlk htab hB hl
  obtain ⟨hx, hb, hml, hown, hts⟩ := id S
  obtain ⟨⟨hP, hK⟩, hG, hNc⟩ := hB
  have hPX : va_P G vwCl (wX a C K D Wt O n) s.heap := hP.sub [0, 1, 2, 3, 4] rfl
  have hKX : va_K G vwCl (tX C) s := hK.sub [0, 1, 2, 3] rfl
  have hS : va_S (aXo a oo) s.heap s.heap [] := va_S.rf
  have hl : lv_has ls 3 [(0, .ref (a 0)), (1, .ref oo)] := hl
  refine lv_aload_n hx hb dL_half_0 rfl (lv_at hl 1 rfl) ?_
  refine lv_iconst (v := 0) hx hb dL_half_1 (by decide) ?_
  refine lv_aload_n hx hb dL_half_2 rfl (lv_at hl 0 rfl) ?_
  refine rd_call (W.runV (As := []) (rest := [.int 0, .ref oo]) S hM (cwV 0 hts (gL_51 tb_cons) rfl rfl rfl (by decide +kernel) ⟨Nat.le_of_ble_eq_true rfl, Nat.le_of_ble_eq_true rfl⟩) (pX_V hPX hKX) rfl rfl hl.1 rfl (lv_room (Nat.le_of_ble_eq_true rfl)) dL_half_3 ⟨Nat.zero_le _, Nat.zero_le _⟩) ?_
  refine lv_i2l hx hb dL_half_6 rfl ?_
  refine q_last hx hb hK hP (dXo hap _ _ _ _ _ _ _ _) hS 5 4 rfl rfl 0 rfl (by decide) (by decide) dL_half_7 (fun H locs hP hS => ?_)
  refine lv_goto (tgt := 14) hx hb dL_half_8 (by decide) ?_
  refine lv_iconst (v := 0) hx hb dL_half_14 (by decide) ?_
  refine W.widen (k := 1) (n := 6) (by omega) (by omega) ?_
  exact W.iret hx hb hr (fun t ht _ => ⟨rfl, by rw [ht]; exact hP, hS.F ht⟩) hS.2.2 dL_half_15
set_option maxHeartbeats 4000000 in
set_option maxRecDepth 100000 in
theorem lw_half_NS (l : Launch) (G : va_G) (a : Nat → Nat) (C : Nat → ClassId) (oo : Nat) (Co : ClassId) (hap : apXo a oo) (K D : Nat → Int64) (Wt O : Nat → Int32) (n : Int32) (f : Nat → Int64) (hM : tx_Met l yX0_half wsX0_half { frames := 6, cells := 1, slots := 6, locals := 90 } (va_Pc [.ref (a 0)] (bX G a C K D Wt O n)) (th_Q ENS) 1 6 (fun _ => False)) : Met l yL_half wsL_half { frames := 8, cells := 1, slots := 6, locals := 150 } (va_Pc [.ref (a 0), .ref oo] (bXo G a C K D Wt O n oo Co f)) (wr_Q G vwCl (some (.int 1)) (wXo a C K D Wt O n oo Co f) (aXo a oo)) 1 6 (aXo a oo) := by
  refine q_openW (cc := cL_half) (maxL := 3) (ret := (some .int)) (hh := [(0, 8, 11, 19)]) (by decide) rfl (Nat.le_of_ble_eq_true rfl) ?_
  intro p e s m below meth c ls S hr hlk htab hB hl
  obtain ⟨hx, hb, hml, hown, hts⟩ := id S
  obtain ⟨⟨hP, hK⟩, hG, hNc⟩ := hB
  have hPX : va_P G vwCl (wX a C K D Wt O n) s.heap := hP.sub [0, 1, 2, 3, 4] rfl
  have hKX : va_K G vwCl (tX C) s := hK.sub [0, 1, 2, 3] rfl
  have hS : va_S (aXo a oo) s.heap s.heap [] := va_S.rf
  have hl : lv_has ls 3 [(0, .ref (a 0)), (1, .ref oo)] := hl
  refine lv_aload_n hx hb dL_half_0 rfl (lv_at hl 1 rfl) ?_
  refine lv_iconst (v := 0) hx hb dL_half_1 (by decide) ?_
  refine lv_aload_n hx hb dL_half_2 rfl (lv_at hl 0 rfl) ?_
  refine tx_runV (As := []) (rest := [.int 0, .ref oo]) S hM (cwV 0 hts (gL_51 tb_cons) rfl rfl rfl (by decide +kernel) ⟨Nat.le_of_ble_eq_true rfl, Nat.le_of_ble_eq_true rfl⟩) (pXb_V hPX hKX hG) rfl hl.1 rfl (lv_room (Nat.le_of_ble_eq_true rfl)) dL_half_3 ⟨Nat.le_of_ble_eq_true rfl, Nat.le_of_ble_eq_true rfl⟩ (fun o st t H1 L h0 h1 ha9 hq hL9 => ?_)
  obtain ⟨x9, ce, ho, h3, h5, h4, h6, h7⟩ := hq
  subst ho
  refine ⟨fun v hv => (by cases hv), fun x hx9 => ?_⟩
  cases hx9
  refine tx_catch1 (x := ⟨0, 8, 11, 19⟩) (rows := []) (cls := ENS) htab (by decide) (by decide) hown (hts _ (tb_cons _ w_cl_L_19)) (by rw [← h1]; exact h3) h5 (by rw [← ha9.findClass]; exact h4) ?_
  have hh : ∀ q : Nat, q < s.heap.size → H1[q]? = s.heap[q]? := fun q hq => by rw [← h1, ← h0]; exact h7 q (by rw [h0]; exact hq)
  have hP := keepXo hP hh
  refine lv_astore_n hx hb dL_half_11 rfl hl (by decide) rfl (fun ls hl => ?_)
  have hl : lv_has ls 3 [(2, .ref x9), (0, .ref (a 0)), (1, .ref oo)] := hl
  refine lv_iconst (v := 1) hx hb dL_half_12 (by decide) ?_
  exact W.iret hx hb hr (fun u hu _ => ⟨rfl, by rw [hu]; exact hP, by rw [hu, ← h1, ← h0]; exact h6, fun q hq _ => by rw [hu]; exact hh q hq⟩) (fun q hq => (hL9 q hq).elim) dL_half_13
set_option maxHeartbeats 4000000 in
set_option maxRecDepth 100000 in
theorem lw_nearest_ok (l : Launch) (G : va_G) (a : Nat → Nat) (C : Nat → ClassId) (oo : Nat) (Co : ClassId) (hap : apXo a oo) (K D : Nat → Int64) (Wt O : Nat → Int32) (n : Int32) (f : Nat → Int64) {v : Int64} (hM : Met l yX0_nearest wsX0_nearest { frames := 1, cells := 0, slots := 0, locals := 30 } (va_Pc [.ref (a 0)] (rX G a C K D Wt O n)) (rd_Q (.long v)) 0 0 (fun _ => False)) : Met l yL_nearest wsL_nearest { frames := 8, cells := 1, slots := 6, locals := 150 } (va_Pc [.ref (a 0), .ref oo] (bXo G a C K D Wt O n oo Co f)) (wr_Q G vwCl (some (.int 0)) (wXo a C K D Wt O n oo Co (vp_updL f 0 v)) (aXo a oo)) 1 6 (aXo a oo) := by
  refine q_openW (cc := cL_nearest) (maxL := 3) (ret := (some .int)) (hh := [(0, 7, 10, 19)]) (by decide) rfl (Nat.le_of_ble_eq_true rfl) ?_
  intro p e s m below meth c ls S hr hlk htab hB hl
  obtain ⟨hx, hb, hml, hown, hts⟩ := id S
  obtain ⟨⟨hP, hK⟩, hG, hNc⟩ := hB
  have hPX : va_P G vwCl (wX a C K D Wt O n) s.heap := hP.sub [0, 1, 2, 3, 4] rfl
  have hKX : va_K G vwCl (tX C) s := hK.sub [0, 1, 2, 3] rfl
  have hS : va_S (aXo a oo) s.heap s.heap [] := va_S.rf
  have hl : lv_has ls 3 [(0, .ref (a 0)), (1, .ref oo)] := hl
  refine lv_aload_n hx hb dL_nearest_0 rfl (lv_at hl 1 rfl) ?_
  refine lv_iconst (v := 0) hx hb dL_nearest_1 (by decide) ?_
  refine lv_aload_n hx hb dL_nearest_2 rfl (lv_at hl 0 rfl) ?_
  refine rd_call (W.runV (As := []) (rest := [.int 0, .ref oo]) S hM (cwV 0 hts (gL_54 tb_cons) rfl rfl rfl (by decide +kernel) ⟨Nat.le_of_ble_eq_true rfl, Nat.le_of_ble_eq_true rfl⟩) (pX_V hPX hKX) rfl rfl hl.1 rfl (lv_room (Nat.le_of_ble_eq_true rfl)) dL_nearest_3 ⟨Nat.zero_le _, Nat.zero_le _⟩) ?_
  refine q_last hx hb hK hP (dXo hap _ _ _ _ _ _ _ _) hS 5 4 rfl rfl 0 rfl (by decide) (by decide) dL_nearest_6 (fun H locs hP hS => ?_)
  refine lv_goto (tgt := 13) hx hb dL_nearest_7 (by decide) ?_
  refine lv_iconst (v := 0) hx hb dL_nearest_13 (by decide) ?_
  refine W.widen (k := 1) (n := 6) (by omega) (by omega) ?_
  exact W.iret hx hb hr (fun t ht _ => ⟨rfl, by rw [ht]; exact hP, hS.F ht⟩) hS.2.2 dL_nearest_14
set_option maxHeartbeats 4000000 in
set_option maxRecDepth 100000 in
theorem lw_nearest_NS (l : Launch) (G : va_G) (a : Nat → Nat) (C : Nat → ClassId) (oo : Nat) (Co : ClassId) (hap : apXo a oo) (K D : Nat → Int64) (Wt O : Nat → Int32) (n : Int32) (f : Nat → Int64) (hM : tx_Met l yX0_nearest wsX0_nearest { frames := 6, cells := 1, slots := 6, locals := 90 } (va_Pc [.ref (a 0)] (bX G a C K D Wt O n)) (th_Q ENS) 1 6 (fun _ => False)) : Met l yL_nearest wsL_nearest { frames := 8, cells := 1, slots := 6, locals := 150 } (va_Pc [.ref (a 0), .ref oo] (bXo G a C K D Wt O n oo Co f)) (wr_Q G vwCl (some (.int 1)) (wXo a C K D Wt O n oo Co f) (aXo a oo)) 1 6 (aXo a oo) := by
  refine q_openW (cc := cL_nearest) (maxL := 3) (ret := (some .int)) (hh := [(0, 7, 10, 19)]) (by decide) rfl (Nat.le_of_ble_eq_true rfl) ?_
  intro p e s m below meth c ls S hr hlk htab hB hl
  obtain ⟨hx, hb, hml, hown, hts⟩ := id S
  obtain ⟨⟨hP, hK⟩, hG, hNc⟩ := hB
  have hPX : va_P G vwCl (wX a C K D Wt O n) s.heap := hP.sub [0, 1, 2, 3, 4] rfl
  have hKX : va_K G vwCl (tX C) s := hK.sub [0, 1, 2, 3] rfl
  have hS : va_S (aXo a oo) s.heap s.heap [] := va_S.rf
  have hl : lv_has ls 3 [(0, .ref (a 0)), (1, .ref oo)] := hl
  refine lv_aload_n hx hb dL_nearest_0 rfl (lv_at hl 1 rfl) ?_
  refine lv_iconst (v := 0) hx hb dL_nearest_1 (by decide) ?_
  refine lv_aload_n hx hb dL_nearest_2 rfl (lv_at hl 0 rfl) ?_
  refine tx_runV (As := []) (rest := [.int 0, .ref oo]) S hM (cwV 0 hts (gL_54 tb_cons) rfl rfl rfl (by decide +kernel) ⟨Nat.le_of_ble_eq_true rfl, Nat.le_of_ble_eq_true rfl⟩) (pXb_V hPX hKX hG) rfl hl.1 rfl (lv_room (Nat.le_of_ble_eq_true rfl)) dL_nearest_3 ⟨Nat.le_of_ble_eq_true rfl, Nat.le_of_ble_eq_true rfl⟩ (fun o st t H1 L h0 h1 ha9 hq hL9 => ?_)
  obtain ⟨x9, ce, ho, h3, h5, h4, h6, h7⟩ := hq
  subst ho
  refine ⟨fun v hv => (by cases hv), fun x hx9 => ?_⟩
  cases hx9
  refine tx_catch1 (x := ⟨0, 7, 10, 19⟩) (rows := []) (cls := ENS) htab (by decide) (by decide) hown (hts _ (tb_cons _ w_cl_L_19)) (by rw [← h1]; exact h3) h5 (by rw [← ha9.findClass]; exact h4) ?_
  have hh : ∀ q : Nat, q < s.heap.size → H1[q]? = s.heap[q]? := fun q hq => by rw [← h1, ← h0]; exact h7 q (by rw [h0]; exact hq)
  have hP := keepXo hP hh
  refine lv_astore_n hx hb dL_nearest_10 rfl hl (by decide) rfl (fun ls hl => ?_)
  have hl : lv_has ls 3 [(2, .ref x9), (0, .ref (a 0)), (1, .ref oo)] := hl
  refine lv_iconst (v := 1) hx hb dL_nearest_11 (by decide) ?_
  exact W.iret hx hb hr (fun u hu _ => ⟨rfl, by rw [hu]; exact hP, by rw [hu, ← h1, ← h0]; exact h6, fun q hq _ => by rw [hu]; exact hh q hq⟩) (fun q hq => (hL9 q hq).elim) dL_nearest_12
