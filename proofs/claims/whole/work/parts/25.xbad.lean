set_option maxHeartbeats 4000000 in
set_option maxRecDepth 100000 in
theorem bx_put_1 (l : Launch) (hL : ∀ e : Env, l.admits e → e.platform.stackTraces = false) (G : va_G) (a : Nat → Nat) (C : Nat → ClassId) (K D : Nat → Int64) (Wt O : Nat → Int32) (n : Int32) {j : Int32} {key due : Int64} {x : Int32} (h : j < 0 ∨ 200 ≤ j) : tx_Met l yX0_put wsX0_put { frames := 6, cells := 1, slots := 6, locals := 90 } (va_Pc [.ref (a 0), .int j, .long key, .long due, .int x] (bX G a C K D Wt O n)) (th_Q EIA) 1 6 (fun _ => False) := by
  refine q_openT (cc := cX0_put) (maxL := 7) (ret := (some .int)) (by decide) rfl (Nat.le_of_ble_eq_true rfl) ?_
  intro p e s m below meth c ls S hr hlk hno hB hl
  obtain ⟨hx, hb, hml, hown, hts⟩ := id S
  obtain ⟨⟨hP, hK⟩, hG⟩ := hB
  have hin : ∀ w ∈ u_ws RX0 TX0 5, w ∈ wsX0_put := fun w h => tb_cons w (hinX0 w h)
  have hl : lv_has ls 7 [(0, .ref (a 0)), (1, .int j), (2, .long key), (4, .long due), (6, .int x)] := hl
  refine lv_iload_n hx hb dX0_put_0 rfl (lv_at hl 1 rfl) ?_
  refine rd_call (W.runS (As := [.int j]) (rest := []) S (cx_isNumber_out l h) (cwS 1 hts (gX0_27 tb_cons) rfl rfl rfl (by decide +kernel) ⟨Nat.le_of_ble_eq_true rfl, Nat.le_of_ble_eq_true rfl⟩) ⟨fun _ _ _ _ q => q, fun U _ _ => ⟨rfl, trivial⟩⟩ rfl rfl hl.1 rfl (lv_room (Nat.le_of_ble_eq_true rfl)) dX0_put_1 ⟨Nat.zero_le _, Nat.zero_le _⟩) ?_
  refine lv_if_eq (tgt := 28) hx hb dX0_put_4 (by decide) (fun _ => ?_) (fun hc => absurd (rfl) hc)
  exact tx_thr (names := ENM) hx hb hL hlk hown rfl (by decide) (own_ok own_IA (fun w h => hts w (tb_cons w h)) hG (hts _ (tb_cons _ w_inst_IllegalArgumentException))) (hts _ (tb_cons _ w_cl_X0_35)) (hts _ (tb_cons _ w_inst_IllegalArgumentException)) (hts _ (tb_cons _ w_in_IllegalArgumentException)) (Nat.le_refl _) (hl.1.trans hml.symm) dX0_put_28 dX0_put_31 dX0_put_32 dX0_put_35 hno (Nat.le_of_ble_eq_true rfl) (Nat.le_of_ble_eq_true rfl) (Nat.le_of_ble_eq_true rfl) (Nat.le_of_ble_eq_true rfl) (fun t ce hW h1 h2 h3 h4 h5 => ⟨_, ce, rfl, h3, h5, by rw [hW.alike.findClass]; exact h4, h1, h2⟩)
set_option maxHeartbeats 4000000 in
set_option maxRecDepth 100000 in
theorem bx_put_2 (l : Launch) (hL : ∀ e : Env, l.admits e → e.platform.stackTraces = false) (G : va_G) (a : Nat → Nat) (C : Nat → ClassId) (K D : Nat → Int64) (Wt O : Nat → Int32) (n : Int32) {j : Nat} (hj : j < 200) {key due : Int64} {x : Int32} (h : key < (-1099511627776) ∨ 1099511627776 < key) : tx_Met l yX0_put wsX0_put { frames := 6, cells := 1, slots := 6, locals := 90 } (va_Pc [.ref (a 0), .int (nI j), .long key, .long due, .int x] (bX G a C K D Wt O n)) (th_Q EIA) 1 6 (fun _ => False) := by
  refine q_openT (cc := cX0_put) (maxL := 7) (ret := (some .int)) (by decide) rfl (Nat.le_of_ble_eq_true rfl) ?_
  intro p e s m below meth c ls S hr hlk hno hB hl
  obtain ⟨hx, hb, hml, hown, hts⟩ := id S
  obtain ⟨⟨hP, hK⟩, hG⟩ := hB
  have hin : ∀ w ∈ u_ws RX0 TX0 5, w ∈ wsX0_put := fun w h => tb_cons w (hinX0 w h)
  have hl : lv_has ls 7 [(0, .ref (a 0)), (1, .int (nI j)), (2, .long key), (4, .long due), (6, .int x)] := hl
  refine lv_iload_n hx hb dX0_put_0 rfl (lv_at hl 1 rfl) ?_
  refine rd_call (W.runS (As := [.int (nI j)]) (rest := []) S (cx_isNumber_in l hj) (cwS 1 hts (gX0_27 tb_cons) rfl rfl rfl (by decide +kernel) ⟨Nat.le_of_ble_eq_true rfl, Nat.le_of_ble_eq_true rfl⟩) ⟨fun _ _ _ _ q => q, fun U _ _ => ⟨rfl, trivial⟩⟩ rfl rfl hl.1 rfl (lv_room (Nat.le_of_ble_eq_true rfl)) dX0_put_1 ⟨Nat.zero_le _, Nat.zero_le _⟩) ?_
  refine lv_if_eq (tgt := 28) hx hb dX0_put_4 (by decide) (fun hc => absurd hc (by decide)) (fun _ => ?_)
  refine lv_lload_n hx hb dX0_put_7 rfl (lv_at hl 2 rfl) ?_
  refine rd_call (W.runS (As := [.long key]) (rest := []) S (cx_mayBePut_out l h) (cwS 1 hts (gX0_31 tb_cons) rfl rfl rfl (by decide +kernel) ⟨Nat.le_of_ble_eq_true rfl, Nat.le_of_ble_eq_true rfl⟩) ⟨fun _ _ _ _ q => q, fun U _ _ => ⟨rfl, trivial⟩⟩ rfl rfl hl.1 rfl (lv_room (Nat.le_of_ble_eq_true rfl)) dX0_put_8 ⟨Nat.zero_le _, Nat.zero_le _⟩) ?_
  refine lv_if_eq (tgt := 28) hx hb dX0_put_11 (by decide) (fun _ => ?_) (fun hc => absurd (rfl) hc)
  exact tx_thr (names := ENM) hx hb hL hlk hown rfl (by decide) (own_ok own_IA (fun w h => hts w (tb_cons w h)) hG (hts _ (tb_cons _ w_inst_IllegalArgumentException))) (hts _ (tb_cons _ w_cl_X0_35)) (hts _ (tb_cons _ w_inst_IllegalArgumentException)) (hts _ (tb_cons _ w_in_IllegalArgumentException)) (Nat.le_refl _) (hl.1.trans hml.symm) dX0_put_28 dX0_put_31 dX0_put_32 dX0_put_35 hno (Nat.le_of_ble_eq_true rfl) (Nat.le_of_ble_eq_true rfl) (Nat.le_of_ble_eq_true rfl) (Nat.le_of_ble_eq_true rfl) (fun t ce hW h1 h2 h3 h4 h5 => ⟨_, ce, rfl, h3, h5, by rw [hW.alike.findClass]; exact h4, h1, h2⟩)
set_option maxHeartbeats 4000000 in
set_option maxRecDepth 100000 in
theorem bx_put_3 (l : Launch) (hL : ∀ e : Env, l.admits e → e.platform.stackTraces = false) (G : va_G) (a : Nat → Nat) (C : Nat → ClassId) (K D : Nat → Int64) (Wt O : Nat → Int32) (n : Int32) {j : Nat} (hj : j < 200) {key due : Int64} {x : Int32} (hk : ¬ key < (-1099511627776) ∧ ¬ 1099511627776 < key) (h : x < 1) : tx_Met l yX0_put wsX0_put { frames := 6, cells := 1, slots := 6, locals := 90 } (va_Pc [.ref (a 0), .int (nI j), .long key, .long due, .int x] (bX G a C K D Wt O n)) (th_Q EIA) 1 6 (fun _ => False) := by
  refine q_openT (cc := cX0_put) (maxL := 7) (ret := (some .int)) (by decide) rfl (Nat.le_of_ble_eq_true rfl) ?_
  intro p e s m below meth c ls S hr hlk hno hB hl
  obtain ⟨hx, hb, hml, hown, hts⟩ := id S
  obtain ⟨⟨hP, hK⟩, hG⟩ := hB
  have hin : ∀ w ∈ u_ws RX0 TX0 5, w ∈ wsX0_put := fun w h => tb_cons w (hinX0 w h)
  have hl : lv_has ls 7 [(0, .ref (a 0)), (1, .int (nI j)), (2, .long key), (4, .long due), (6, .int x)] := hl
  refine lv_iload_n hx hb dX0_put_0 rfl (lv_at hl 1 rfl) ?_
  refine rd_call (W.runS (As := [.int (nI j)]) (rest := []) S (cx_isNumber_in l hj) (cwS 1 hts (gX0_27 tb_cons) rfl rfl rfl (by decide +kernel) ⟨Nat.le_of_ble_eq_true rfl, Nat.le_of_ble_eq_true rfl⟩) ⟨fun _ _ _ _ q => q, fun U _ _ => ⟨rfl, trivial⟩⟩ rfl rfl hl.1 rfl (lv_room (Nat.le_of_ble_eq_true rfl)) dX0_put_1 ⟨Nat.zero_le _, Nat.zero_le _⟩) ?_
  refine lv_if_eq (tgt := 28) hx hb dX0_put_4 (by decide) (fun hc => absurd hc (by decide)) (fun _ => ?_)
  refine lv_lload_n hx hb dX0_put_7 rfl (lv_at hl 2 rfl) ?_
  refine rd_call (W.runS (As := [.long key]) (rest := []) S (cx_mayBePut_in l hk) (cwS 1 hts (gX0_31 tb_cons) rfl rfl rfl (by decide +kernel) ⟨Nat.le_of_ble_eq_true rfl, Nat.le_of_ble_eq_true rfl⟩) ⟨fun _ _ _ _ q => q, fun U _ _ => ⟨rfl, trivial⟩⟩ rfl rfl hl.1 rfl (lv_room (Nat.le_of_ble_eq_true rfl)) dX0_put_8 ⟨Nat.zero_le _, Nat.zero_le _⟩) ?_
  refine lv_if_eq (tgt := 28) hx hb dX0_put_11 (by decide) (fun hc => absurd hc (by decide)) (fun _ => ?_)
  refine lv_iload hx hb dX0_put_14 (lv_at hl 4 rfl) ?_
  refine lv_iconst (v := 1) hx hb dX0_put_16 (by decide) ?_
  refine lv_icmp_lt (tgt := 28) hx hb dX0_put_17 (by decide) (fun _ => ?_) (fun hc => absurd (h) hc)
  exact tx_thr (names := ENM) hx hb hL hlk hown rfl (by decide) (own_ok own_IA (fun w h => hts w (tb_cons w h)) hG (hts _ (tb_cons _ w_inst_IllegalArgumentException))) (hts _ (tb_cons _ w_cl_X0_35)) (hts _ (tb_cons _ w_inst_IllegalArgumentException)) (hts _ (tb_cons _ w_in_IllegalArgumentException)) (Nat.le_refl _) (hl.1.trans hml.symm) dX0_put_28 dX0_put_31 dX0_put_32 dX0_put_35 hno (Nat.le_of_ble_eq_true rfl) (Nat.le_of_ble_eq_true rfl) (Nat.le_of_ble_eq_true rfl) (Nat.le_of_ble_eq_true rfl) (fun t ce hW h1 h2 h3 h4 h5 => ⟨_, ce, rfl, h3, h5, by rw [hW.alike.findClass]; exact h4, h1, h2⟩)
set_option maxHeartbeats 4000000 in
set_option maxRecDepth 100000 in
theorem bx_put_4 (l : Launch) (hL : ∀ e : Env, l.admits e → e.platform.stackTraces = false) (G : va_G) (a : Nat → Nat) (C : Nat → ClassId) (K D : Nat → Int64) (Wt O : Nat → Int32) (n : Int32) {j : Nat} (hj : j < 200) {key due : Int64} {x : Int32} (hk : ¬ key < (-1099511627776) ∧ ¬ 1099511627776 < key) (h1 : ¬ x < 1) (h : 1000 < x) : tx_Met l yX0_put wsX0_put { frames := 6, cells := 1, slots := 6, locals := 90 } (va_Pc [.ref (a 0), .int (nI j), .long key, .long due, .int x] (bX G a C K D Wt O n)) (th_Q EIA) 1 6 (fun _ => False) := by
  refine q_openT (cc := cX0_put) (maxL := 7) (ret := (some .int)) (by decide) rfl (Nat.le_of_ble_eq_true rfl) ?_
  intro p e s m below meth c ls S hr hlk hno hB hl
  obtain ⟨hx, hb, hml, hown, hts⟩ := id S
  obtain ⟨⟨hP, hK⟩, hG⟩ := hB
  have hin : ∀ w ∈ u_ws RX0 TX0 5, w ∈ wsX0_put := fun w h => tb_cons w (hinX0 w h)
  have hl : lv_has ls 7 [(0, .ref (a 0)), (1, .int (nI j)), (2, .long key), (4, .long due), (6, .int x)] := hl
  refine lv_iload_n hx hb dX0_put_0 rfl (lv_at hl 1 rfl) ?_
  refine rd_call (W.runS (As := [.int (nI j)]) (rest := []) S (cx_isNumber_in l hj) (cwS 1 hts (gX0_27 tb_cons) rfl rfl rfl (by decide +kernel) ⟨Nat.le_of_ble_eq_true rfl, Nat.le_of_ble_eq_true rfl⟩) ⟨fun _ _ _ _ q => q, fun U _ _ => ⟨rfl, trivial⟩⟩ rfl rfl hl.1 rfl (lv_room (Nat.le_of_ble_eq_true rfl)) dX0_put_1 ⟨Nat.zero_le _, Nat.zero_le _⟩) ?_
  refine lv_if_eq (tgt := 28) hx hb dX0_put_4 (by decide) (fun hc => absurd hc (by decide)) (fun _ => ?_)
  refine lv_lload_n hx hb dX0_put_7 rfl (lv_at hl 2 rfl) ?_
  refine rd_call (W.runS (As := [.long key]) (rest := []) S (cx_mayBePut_in l hk) (cwS 1 hts (gX0_31 tb_cons) rfl rfl rfl (by decide +kernel) ⟨Nat.le_of_ble_eq_true rfl, Nat.le_of_ble_eq_true rfl⟩) ⟨fun _ _ _ _ q => q, fun U _ _ => ⟨rfl, trivial⟩⟩ rfl rfl hl.1 rfl (lv_room (Nat.le_of_ble_eq_true rfl)) dX0_put_8 ⟨Nat.zero_le _, Nat.zero_le _⟩) ?_
  refine lv_if_eq (tgt := 28) hx hb dX0_put_11 (by decide) (fun hc => absurd hc (by decide)) (fun _ => ?_)
  refine lv_iload hx hb dX0_put_14 (lv_at hl 4 rfl) ?_
  refine lv_iconst (v := 1) hx hb dX0_put_16 (by decide) ?_
  refine lv_icmp_lt (tgt := 28) hx hb dX0_put_17 (by decide) (fun hc => absurd hc (h1)) (fun _ => ?_)
  refine lv_iload hx hb dX0_put_20 (lv_at hl 4 rfl) ?_
  refine lv_sipush (v := 1000) hx hb dX0_put_22 (by decide) ?_
  refine lv_icmp_le (tgt := 36) hx hb dX0_put_25 (by decide) (fun hc => absurd hc (Int32.not_le.mpr h)) (fun _ => ?_)
  exact tx_thr (names := ENM) hx hb hL hlk hown rfl (by decide) (own_ok own_IA (fun w h => hts w (tb_cons w h)) hG (hts _ (tb_cons _ w_inst_IllegalArgumentException))) (hts _ (tb_cons _ w_cl_X0_35)) (hts _ (tb_cons _ w_inst_IllegalArgumentException)) (hts _ (tb_cons _ w_in_IllegalArgumentException)) (Nat.le_refl _) (hl.1.trans hml.symm) dX0_put_28 dX0_put_31 dX0_put_32 dX0_put_35 hno (Nat.le_of_ble_eq_true rfl) (Nat.le_of_ble_eq_true rfl) (Nat.le_of_ble_eq_true rfl) (Nat.le_of_ble_eq_true rfl) (fun t ce hW h1 h2 h3 h4 h5 => ⟨_, ce, rfl, h3, h5, by rw [hW.alike.findClass]; exact h4, h1, h2⟩)
set_option maxHeartbeats 4000000 in
set_option maxRecDepth 100000 in
theorem bx_drop (l : Launch) (hL : ∀ e : Env, l.admits e → e.platform.stackTraces = false) (G : va_G) (a : Nat → Nat) (C : Nat → ClassId) (K D : Nat → Int64) (Wt O : Nat → Int32) (n : Int32) {x : Int32} (hI : Met l yX0_isThere wsX0_isThere { frames := 1, cells := 0, slots := 0, locals := 30 } (va_Pc [.ref (a 0), .int x] (rX G a C K D Wt O n)) (rd_Q (.int 0)) 0 0 (fun _ => False)) : tx_Met l yX0_drop wsX0_drop { frames := 6, cells := 1, slots := 6, locals := 90 } (va_Pc [.ref (a 0), .int x] (bX G a C K D Wt O n)) (th_Q ENS) 1 6 (fun _ => False) := by
  refine q_openT (cc := cX0_drop) (maxL := 3) (ret := (some .int)) (by decide) rfl (Nat.le_of_ble_eq_true rfl) ?_
  intro p e s m below meth c ls S hr hlk hno hB hl
  obtain ⟨hx, hb, hml, hown, hts⟩ := id S
  obtain ⟨⟨hP, hK⟩, hG⟩ := hB
  have hin : ∀ w ∈ u_ws RX0 TX0 5, w ∈ wsX0_drop := fun w h => tb_cons w (hinX0 w h)
  have hl : lv_has ls 3 [(0, .ref (a 0)), (1, .int x)] := hl
  refine lv_aload_n hx hb dX0_drop_0 rfl (lv_at hl 0 rfl) ?_
  refine lv_iload_n hx hb dX0_drop_1 rfl (lv_at hl 1 rfl) ?_
  refine rd_call (W.runV (As := [.int x]) (rest := []) S (hI) (cwV 1 hts (gX0_38 tb_cons) rfl rfl rfl (by decide +kernel) ⟨Nat.le_of_ble_eq_true rfl, Nat.le_of_ble_eq_true rfl⟩) (pX_V hP hK) rfl rfl hl.1 rfl (lv_room (Nat.le_of_ble_eq_true rfl)) dX0_drop_2 ⟨Nat.zero_le _, Nat.zero_le _⟩) ?_
  refine lv_if_ne (tgt := 16) hx hb dX0_drop_5 (by decide) (fun hc => absurd (rfl) hc) (fun _ => ?_)
  exact tx_thr (names := ENM) hx hb hL hlk hown rfl (by decide) (own_ok own_NS (fun w h => hts w (tb_cons w h)) hG (hts _ (tb_cons _ w_inst_NoSuchElementException))) (hts _ (tb_cons _ w_cl_X0_48)) (hts _ (tb_cons _ w_inst_NoSuchElementException)) (hts _ (tb_cons _ w_in_NoSuchElementException)) (Nat.le_refl _) (hl.1.trans hml.symm) dX0_drop_8 dX0_drop_11 dX0_drop_12 dX0_drop_15 hno (Nat.le_of_ble_eq_true rfl) (Nat.le_of_ble_eq_true rfl) (Nat.le_of_ble_eq_true rfl) (Nat.le_of_ble_eq_true rfl) (fun t ce hW h1 h2 h3 h4 h5 => ⟨_, ce, rfl, h3, h5, by rw [hW.alike.findClass]; exact h4, h1, h2⟩)
set_option maxHeartbeats 4000000 in
set_option maxRecDepth 100000 in
theorem bx_told (l : Launch) (hL : ∀ e : Env, l.admits e → e.platform.stackTraces = false) (G : va_G) (a : Nat → Nat) (C : Nat → ClassId) (K D : Nat → Int64) (Wt O : Nat → Int32) (n : Int32) {x : Int32} (hI : Met l yX0_isThere wsX0_isThere { frames := 1, cells := 0, slots := 0, locals := 30 } (va_Pc [.ref (a 0), .int x] (rX G a C K D Wt O n)) (rd_Q (.int 0)) 0 0 (fun _ => False)) {y : Int32} : tx_Met l yX0_told wsX0_told { frames := 6, cells := 1, slots := 6, locals := 90 } (va_Pc [.ref (a 0), .int x, .int y] (bX G a C K D Wt O n)) (th_Q ENS) 1 6 (fun _ => False) := by
  refine q_openT (cc := cX0_told) (maxL := 3) (ret := (some .long)) (by decide) rfl (Nat.le_of_ble_eq_true rfl) ?_
  intro p e s m below meth c ls S hr hlk hno hB hl
  obtain ⟨hx, hb, hml, hown, hts⟩ := id S
  obtain ⟨⟨hP, hK⟩, hG⟩ := hB
  have hin : ∀ w ∈ u_ws RX0 TX0 5, w ∈ wsX0_told := fun w h => tb_cons w (hinX0 w h)
  have hl : lv_has ls 3 [(0, .ref (a 0)), (1, .int x), (2, .int y)] := hl
  refine lv_aload_n hx hb dX0_told_0 rfl (lv_at hl 0 rfl) ?_
  refine lv_iload_n hx hb dX0_told_1 rfl (lv_at hl 1 rfl) ?_
  refine rd_call (W.runV (As := [.int x]) (rest := []) S (hI) (cwV 1 hts (gX0_38 tb_cons) rfl rfl rfl (by decide +kernel) ⟨Nat.le_of_ble_eq_true rfl, Nat.le_of_ble_eq_true rfl⟩) (pX_V hP hK) rfl rfl hl.1 rfl (lv_room (Nat.le_of_ble_eq_true rfl)) dX0_told_2 ⟨Nat.zero_le _, Nat.zero_le _⟩) ?_
  refine lv_if_ne (tgt := 16) hx hb dX0_told_5 (by decide) (fun hc => absurd (rfl) hc) (fun _ => ?_)
  exact tx_thr (names := ENM) hx hb hL hlk hown rfl (by decide) (own_ok own_NS (fun w h => hts w (tb_cons w h)) hG (hts _ (tb_cons _ w_inst_NoSuchElementException))) (hts _ (tb_cons _ w_cl_X0_48)) (hts _ (tb_cons _ w_inst_NoSuchElementException)) (hts _ (tb_cons _ w_in_NoSuchElementException)) (Nat.le_refl _) (hl.1.trans hml.symm) dX0_told_8 dX0_told_11 dX0_told_12 dX0_told_15 hno (Nat.le_of_ble_eq_true rfl) (Nat.le_of_ble_eq_true rfl) (Nat.le_of_ble_eq_true rfl) (Nat.le_of_ble_eq_true rfl) (fun t ce hW h1 h2 h3 h4 h5 => ⟨_, ce, rfl, h3, h5, by rw [hW.alike.findClass]; exact h4, h1, h2⟩)
set_option maxHeartbeats 4000000 in
set_option maxRecDepth 100000 in
theorem bx_rank (l : Launch) (hL : ∀ e : Env, l.admits e → e.platform.stackTraces = false) (G : va_G) (a : Nat → Nat) (C : Nat → ClassId) (K D : Nat → Int64) (Wt O : Nat → Int32) (n : Int32) {x : Int32} (hI : Met l yX0_isThere wsX0_isThere { frames := 1, cells := 0, slots := 0, locals := 30 } (va_Pc [.ref (a 0), .int x] (rX G a C K D Wt O n)) (rd_Q (.int 0)) 0 0 (fun _ => False)) : tx_Met l yX0_rank wsX0_rank { frames := 6, cells := 1, slots := 6, locals := 90 } (va_Pc [.ref (a 0), .int x] (bX G a C K D Wt O n)) (th_Q ENS) 1 6 (fun _ => False) := by
  refine q_openT (cc := cX0_rank) (maxL := 2) (ret := (some .int)) (by decide) rfl (Nat.le_of_ble_eq_true rfl) ?_
  intro p e s m below meth c ls S hr hlk hno hB hl
  obtain ⟨hx, hb, hml, hown, hts⟩ := id S
  obtain ⟨⟨hP, hK⟩, hG⟩ := hB
  have hin : ∀ w ∈ u_ws RX0 TX0 5, w ∈ wsX0_rank := fun w h => tb_cons w (hinX0 w h)
  have hl : lv_has ls 2 [(0, .ref (a 0)), (1, .int x)] := hl
  refine lv_aload_n hx hb dX0_rank_0 rfl (lv_at hl 0 rfl) ?_
  refine lv_iload_n hx hb dX0_rank_1 rfl (lv_at hl 1 rfl) ?_
  refine rd_call (W.runV (As := [.int x]) (rest := []) S (hI) (cwV 1 hts (gX0_38 tb_cons) rfl rfl rfl (by decide +kernel) ⟨Nat.le_of_ble_eq_true rfl, Nat.le_of_ble_eq_true rfl⟩) (pX_V hP hK) rfl rfl hl.1 rfl (lv_room (Nat.le_of_ble_eq_true rfl)) dX0_rank_2 ⟨Nat.zero_le _, Nat.zero_le _⟩) ?_
  refine lv_if_ne (tgt := 16) hx hb dX0_rank_5 (by decide) (fun hc => absurd (rfl) hc) (fun _ => ?_)
  exact tx_thr (names := ENM) hx hb hL hlk hown rfl (by decide) (own_ok own_NS (fun w h => hts w (tb_cons w h)) hG (hts _ (tb_cons _ w_inst_NoSuchElementException))) (hts _ (tb_cons _ w_cl_X0_48)) (hts _ (tb_cons _ w_inst_NoSuchElementException)) (hts _ (tb_cons _ w_in_NoSuchElementException)) (Nat.le_refl _) (hl.1.trans hml.symm) dX0_rank_8 dX0_rank_11 dX0_rank_12 dX0_rank_15 hno (Nat.le_of_ble_eq_true rfl) (Nat.le_of_ble_eq_true rfl) (Nat.le_of_ble_eq_true rfl) (Nat.le_of_ble_eq_true rfl) (fun t ce hW h1 h2 h3 h4 h5 => ⟨_, ce, rfl, h3, h5, by rw [hW.alike.findClass]; exact h4, h1, h2⟩)
set_option maxHeartbeats 4000000 in
set_option maxRecDepth 100000 in
theorem bx_ahead (l : Launch) (hL : ∀ e : Env, l.admits e → e.platform.stackTraces = false) (G : va_G) (a : Nat → Nat) (C : Nat → ClassId) (K D : Nat → Int64) (Wt O : Nat → Int32) (n : Int32) {x : Int32} (hI : Met l yX0_isThere wsX0_isThere { frames := 1, cells := 0, slots := 0, locals := 30 } (va_Pc [.ref (a 0), .int x] (rX G a C K D Wt O n)) (rd_Q (.int 0)) 0 0 (fun _ => False)) : tx_Met l yX0_ahead wsX0_ahead { frames := 6, cells := 1, slots := 6, locals := 90 } (va_Pc [.ref (a 0), .int x] (bX G a C K D Wt O n)) (th_Q ENS) 1 6 (fun _ => False) := by
  refine q_openT (cc := cX0_ahead) (maxL := 2) (ret := (some .long)) (by decide) rfl (Nat.le_of_ble_eq_true rfl) ?_
  intro p e s m below meth c ls S hr hlk hno hB hl
  obtain ⟨hx, hb, hml, hown, hts⟩ := id S
  obtain ⟨⟨hP, hK⟩, hG⟩ := hB
  have hin : ∀ w ∈ u_ws RX0 TX0 5, w ∈ wsX0_ahead := fun w h => tb_cons w (hinX0 w h)
  have hl : lv_has ls 2 [(0, .ref (a 0)), (1, .int x)] := hl
  refine lv_aload_n hx hb dX0_ahead_0 rfl (lv_at hl 0 rfl) ?_
  refine lv_iload_n hx hb dX0_ahead_1 rfl (lv_at hl 1 rfl) ?_
  refine rd_call (W.runV (As := [.int x]) (rest := []) S (hI) (cwV 1 hts (gX0_38 tb_cons) rfl rfl rfl (by decide +kernel) ⟨Nat.le_of_ble_eq_true rfl, Nat.le_of_ble_eq_true rfl⟩) (pX_V hP hK) rfl rfl hl.1 rfl (lv_room (Nat.le_of_ble_eq_true rfl)) dX0_ahead_2 ⟨Nat.zero_le _, Nat.zero_le _⟩) ?_
  refine lv_if_ne (tgt := 16) hx hb dX0_ahead_5 (by decide) (fun hc => absurd (rfl) hc) (fun _ => ?_)
  exact tx_thr (names := ENM) hx hb hL hlk hown rfl (by decide) (own_ok own_NS (fun w h => hts w (tb_cons w h)) hG (hts _ (tb_cons _ w_inst_NoSuchElementException))) (hts _ (tb_cons _ w_cl_X0_48)) (hts _ (tb_cons _ w_inst_NoSuchElementException)) (hts _ (tb_cons _ w_in_NoSuchElementException)) (Nat.le_refl _) (hl.1.trans hml.symm) dX0_ahead_8 dX0_ahead_11 dX0_ahead_12 dX0_ahead_15 hno (Nat.le_of_ble_eq_true rfl) (Nat.le_of_ble_eq_true rfl) (Nat.le_of_ble_eq_true rfl) (Nat.le_of_ble_eq_true rfl) (fun t ce hW h1 h2 h3 h4 h5 => ⟨_, ce, rfl, h3, h5, by rw [hW.alike.findClass]; exact h4, h1, h2⟩)
set_option maxHeartbeats 4000000 in
set_option maxRecDepth 100000 in
theorem bx_told_what (l : Launch) (hL : ∀ e : Env, l.admits e → e.platform.stackTraces = false) (G : va_G) (a : Nat → Nat) (C : Nat → ClassId) (K D : Nat → Int64) (Wt O : Nat → Int32) (n : Int32) {j : Nat} (hj : j < 200) (ht : 0 < Wt j) {y : Int32} (hy : y.toInt < 0 ∨ 2 < y.toInt) : tx_Met l yX0_told wsX0_told { frames := 6, cells := 1, slots := 6, locals := 90 } (va_Pc [.ref (a 0), .int (nI j), .int y] (bX G a C K D Wt O n)) (th_Q EIA) 1 6 (fun _ => False) := by
  refine q_openT (cc := cX0_told) (maxL := 3) (ret := (some .long)) (by decide) rfl (Nat.le_of_ble_eq_true rfl) ?_
  intro p e s m below meth c ls S hr hlk hno hB hl
  obtain ⟨hx, hb, hml, hown, hts⟩ := id S
  obtain ⟨⟨hP, hK⟩, hG⟩ := hB
  have hin : ∀ w ∈ u_ws RX0 TX0 5, w ∈ wsX0_told := fun w h => tb_cons w (hinX0 w h)
  have hl : lv_has ls 3 [(0, .ref (a 0)), (1, .int (nI j)), (2, .int y)] := hl
  refine lv_aload_n hx hb dX0_told_0 rfl (lv_at hl 0 rfl) ?_
  refine lv_iload_n hx hb dX0_told_1 rfl (lv_at hl 1 rfl) ?_
  refine rd_call (W.runV (As := [.int (nI j)]) (rest := []) S (cx_isThere_yes l G a C K D Wt O n hj ht) (cwV 1 hts (gX0_38 tb_cons) rfl rfl rfl (by decide +kernel) ⟨Nat.le_of_ble_eq_true rfl, Nat.le_of_ble_eq_true rfl⟩) (pX_V hP hK) rfl rfl hl.1 rfl (lv_room (Nat.le_of_ble_eq_true rfl)) dX0_told_2 ⟨Nat.zero_le _, Nat.zero_le _⟩) ?_
  refine lv_if_ne (tgt := 16) hx hb dX0_told_5 (by decide) (fun _ => ?_) (fun hc => absurd hc (by decide))
  refine lv_iload_n hx hb dX0_told_16 rfl (lv_at hl 2 rfl) ?_
  refine lv_tableOut (tgt := 66) hx hb dX0_told_17 (hy) (by decide) ?_
  exact tx_thr (names := ENM) hx hb hL hlk hown rfl (by decide) (own_ok own_IA (fun w h => hts w (tb_cons w h)) hG (hts _ (tb_cons _ w_inst_IllegalArgumentException))) (hts _ (tb_cons _ w_cl_X0_35)) (hts _ (tb_cons _ w_inst_IllegalArgumentException)) (hts _ (tb_cons _ w_in_IllegalArgumentException)) (Nat.le_refl _) (hl.1.trans hml.symm) dX0_told_66 dX0_told_69 dX0_told_70 dX0_told_73 hno (Nat.le_of_ble_eq_true rfl) (Nat.le_of_ble_eq_true rfl) (Nat.le_of_ble_eq_true rfl) (Nat.le_of_ble_eq_true rfl) (fun t ce hW h1 h2 h3 h4 h5 => ⟨_, ce, rfl, h3, h5, by rw [hW.alike.findClass]; exact h4, h1, h2⟩)
set_option maxHeartbeats 4000000 in
set_option maxRecDepth 100000 in
theorem bx_at_1 (l : Launch) (hL : ∀ e : Env, l.admits e → e.platform.stackTraces = false) (G : va_G) (a : Nat → Nat) (C : Nat → ClassId) (K D : Nat → Int64) (Wt O : Nat → Int32) (n : Int32) {x : Int32} (h : x < 0) : tx_Met l yX0_at wsX0_at { frames := 6, cells := 1, slots := 6, locals := 90 } (va_Pc [.ref (a 0), .int x] (bX G a C K D Wt O n)) (th_Q ENS) 1 6 (fun _ => False) := by
  refine q_openT (cc := cX0_at) (maxL := 2) (ret := (some .int)) (by decide) rfl (Nat.le_of_ble_eq_true rfl) ?_
  intro p e s m below meth c ls S hr hlk hno hB hl
  obtain ⟨hx, hb, hml, hown, hts⟩ := id S
  obtain ⟨⟨hP, hK⟩, hG⟩ := hB
  have hin : ∀ w ∈ u_ws RX0 TX0 5, w ∈ wsX0_at := fun w h => tb_cons w (hinX0 w h)
  have hl : lv_has ls 2 [(0, .ref (a 0)), (1, .int x)] := hl
  refine lv_iload_n hx hb dX0_at_0 rfl (lv_at hl 1 rfl) ?_
  refine lv_if_lt (tgt := 12) hx hb dX0_at_1 (by decide) (fun _ => ?_) (fun hc => absurd (h) hc)
  exact tx_thr (names := ENM) hx hb hL hlk hown rfl (by decide) (own_ok own_NS (fun w h => hts w (tb_cons w h)) hG (hts _ (tb_cons _ w_inst_NoSuchElementException))) (hts _ (tb_cons _ w_cl_X0_48)) (hts _ (tb_cons _ w_inst_NoSuchElementException)) (hts _ (tb_cons _ w_in_NoSuchElementException)) (Nat.le_refl _) (hl.1.trans hml.symm) dX0_at_12 dX0_at_15 dX0_at_16 dX0_at_19 hno (Nat.le_of_ble_eq_true rfl) (Nat.le_of_ble_eq_true rfl) (Nat.le_of_ble_eq_true rfl) (Nat.le_of_ble_eq_true rfl) (fun t ce hW h1 h2 h3 h4 h5 => ⟨_, ce, rfl, h3, h5, by rw [hW.alike.findClass]; exact h4, h1, h2⟩)
set_option maxHeartbeats 4000000 in
set_option maxRecDepth 100000 in
theorem bx_at_2 (l : Launch) (hL : ∀ e : Env, l.admits e → e.platform.stackTraces = false) (G : va_G) (a : Nat → Nat) (C : Nat → ClassId) (K D : Nat → Int64) (Wt O : Nat → Int32) (n : Int32) {x : Int32} (h : ¬ x < 0) (h2 : n ≤ x) : tx_Met l yX0_at wsX0_at { frames := 6, cells := 1, slots := 6, locals := 90 } (va_Pc [.ref (a 0), .int x] (bX G a C K D Wt O n)) (th_Q ENS) 1 6 (fun _ => False) := by
  refine q_openT (cc := cX0_at) (maxL := 2) (ret := (some .int)) (by decide) rfl (Nat.le_of_ble_eq_true rfl) ?_
  intro p e s m below meth c ls S hr hlk hno hB hl
  obtain ⟨hx, hb, hml, hown, hts⟩ := id S
  obtain ⟨⟨hP, hK⟩, hG⟩ := hB
  have hin : ∀ w ∈ u_ws RX0 TX0 5, w ∈ wsX0_at := fun w h => tb_cons w (hinX0 w h)
  have hl : lv_has ls 2 [(0, .ref (a 0)), (1, .int x)] := hl
  refine lv_iload_n hx hb dX0_at_0 rfl (lv_at hl 1 rfl) ?_
  refine lv_if_lt (tgt := 12) hx hb dX0_at_1 (by decide) (fun hc => absurd hc (h)) (fun _ => ?_)
  refine lv_iload_n hx hb dX0_at_4 rfl (lv_at hl 1 rfl) ?_
  refine lv_aload_n hx hb dX0_at_5 rfl (lv_at hl 0 rfl) ?_
  refine va_get (D := G) (ci := 0) (C := RX0) (T := TX0) (N := 5) hx hb hts hin hown hK hP 0 rfl rfl 4 (by decide) (hts _ (tb_cons _ w_fl_X0_23)) (fun _ h9 => h9) rfl dX0_at_6 ?_
  refine lv_icmp_lt (tgt := 20) hx hb dX0_at_9 (by decide) (fun hc => absurd hc (Int32.not_lt.mpr h2)) (fun _ => ?_)
  exact tx_thr (names := ENM) hx hb hL hlk hown rfl (by decide) (own_ok own_NS (fun w h => hts w (tb_cons w h)) hG (hts _ (tb_cons _ w_inst_NoSuchElementException))) (hts _ (tb_cons _ w_cl_X0_48)) (hts _ (tb_cons _ w_inst_NoSuchElementException)) (hts _ (tb_cons _ w_in_NoSuchElementException)) (Nat.le_refl _) (hl.1.trans hml.symm) dX0_at_12 dX0_at_15 dX0_at_16 dX0_at_19 hno (Nat.le_of_ble_eq_true rfl) (Nat.le_of_ble_eq_true rfl) (Nat.le_of_ble_eq_true rfl) (Nat.le_of_ble_eq_true rfl) (fun t ce hW h1 h2 h3 h4 h5 => ⟨_, ce, rfl, h3, h5, by rw [hW.alike.findClass]; exact h4, h1, h2⟩)
set_option maxHeartbeats 4000000 in
set_option maxRecDepth 100000 in
theorem bx_slide (l : Launch) (hL : ∀ e : Env, l.admits e → e.platform.stackTraces = false) (G : va_G) (a : Nat → Nat) (C : Nat → ClassId) (K D : Nat → Int64) (Wt O : Nat → Int32) {y : Int64} : tx_Met l yX0_slide wsX0_slide { frames := 6, cells := 1, slots := 6, locals := 90 } (va_Pc [.ref (a 0), .long y] (bX G a C K D Wt O 0)) (th_Q ENS) 1 6 (fun _ => False) := by
  refine q_openT (cc := cX0_slide) (maxL := 8) (ret := (some .long)) (by decide) rfl (Nat.le_of_ble_eq_true rfl) ?_
  intro p e s m below meth c ls S hr hlk hno hB hl
  obtain ⟨hx, hb, hml, hown, hts⟩ := id S
  obtain ⟨⟨hP, hK⟩, hG⟩ := hB
  have hin : ∀ w ∈ u_ws RX0 TX0 5, w ∈ wsX0_slide := fun w h => tb_cons w (hinX0 w h)
  have hl : lv_has ls 8 [(0, .ref (a 0)), (1, .long y)] := hl
  refine lv_aload_n hx hb dX0_slide_0 rfl (lv_at hl 0 rfl) ?_
  refine va_get (D := G) (ci := 0) (C := RX0) (T := TX0) (N := 5) hx hb hts hin hown hK hP 0 rfl rfl 4 (by decide) (hts _ (tb_cons _ w_fl_X0_23)) (fun _ h9 => h9) rfl dX0_slide_1 ?_
  refine lv_if_ne (tgt := 15) hx hb dX0_slide_4 (by decide) (fun hc => absurd (rfl) hc) (fun _ => ?_)
  exact tx_thr (names := ENM) hx hb hL hlk hown rfl (by decide) (own_ok own_NS (fun w h => hts w (tb_cons w h)) hG (hts _ (tb_cons _ w_inst_NoSuchElementException))) (hts _ (tb_cons _ w_cl_X0_48)) (hts _ (tb_cons _ w_inst_NoSuchElementException)) (hts _ (tb_cons _ w_in_NoSuchElementException)) (Nat.le_refl _) (hl.1.trans hml.symm) dX0_slide_7 dX0_slide_10 dX0_slide_11 dX0_slide_14 hno (Nat.le_of_ble_eq_true rfl) (Nat.le_of_ble_eq_true rfl) (Nat.le_of_ble_eq_true rfl) (Nat.le_of_ble_eq_true rfl) (fun t ce hW h1 h2 h3 h4 h5 => ⟨_, ce, rfl, h3, h5, by rw [hW.alike.findClass]; exact h4, h1, h2⟩)
set_option maxHeartbeats 4000000 in
set_option maxRecDepth 100000 in
theorem bx_half (l : Launch) (hL : ∀ e : Env, l.admits e → e.platform.stackTraces = false) (G : va_G) (a : Nat → Nat) (C : Nat → ClassId) (K D : Nat → Int64) (Wt O : Nat → Int32) : tx_Met l yX0_half wsX0_half { frames := 6, cells := 1, slots := 6, locals := 90 } (va_Pc [.ref (a 0)] (bX G a C K D Wt O 0)) (th_Q ENS) 1 6 (fun _ => False) := by
  refine q_openT (cc := cX0_half) (maxL := 4) (ret := (some .int)) (by decide) rfl (Nat.le_of_ble_eq_true rfl) ?_
  intro p e s m below meth c ls S hr hlk hno hB hl
  obtain ⟨hx, hb, hml, hown, hts⟩ := id S
  obtain ⟨⟨hP, hK⟩, hG⟩ := hB
  have hin : ∀ w ∈ u_ws RX0 TX0 5, w ∈ wsX0_half := fun w h => tb_cons w (hinX0 w h)
  have hl : lv_has ls 4 [(0, .ref (a 0))] := hl
  refine lv_aload_n hx hb dX0_half_0 rfl (lv_at hl 0 rfl) ?_
  refine va_get (D := G) (ci := 0) (C := RX0) (T := TX0) (N := 5) hx hb hts hin hown hK hP 0 rfl rfl 4 (by decide) (hts _ (tb_cons _ w_fl_X0_23)) (fun _ h9 => h9) rfl dX0_half_1 ?_
  refine lv_if_ne (tgt := 15) hx hb dX0_half_4 (by decide) (fun hc => absurd (rfl) hc) (fun _ => ?_)
  exact tx_thr (names := ENM) hx hb hL hlk hown rfl (by decide) (own_ok own_NS (fun w h => hts w (tb_cons w h)) hG (hts _ (tb_cons _ w_inst_NoSuchElementException))) (hts _ (tb_cons _ w_cl_X0_48)) (hts _ (tb_cons _ w_inst_NoSuchElementException)) (hts _ (tb_cons _ w_in_NoSuchElementException)) (Nat.le_refl _) (hl.1.trans hml.symm) dX0_half_7 dX0_half_10 dX0_half_11 dX0_half_14 hno (Nat.le_of_ble_eq_true rfl) (Nat.le_of_ble_eq_true rfl) (Nat.le_of_ble_eq_true rfl) (Nat.le_of_ble_eq_true rfl) (fun t ce hW h1 h2 h3 h4 h5 => ⟨_, ce, rfl, h3, h5, by rw [hW.alike.findClass]; exact h4, h1, h2⟩)
set_option maxHeartbeats 4000000 in
set_option maxRecDepth 100000 in
theorem bx_nearest (l : Launch) (hL : ∀ e : Env, l.admits e → e.platform.stackTraces = false) (G : va_G) (a : Nat → Nat) (C : Nat → ClassId) (K D : Nat → Int64) (Wt O : Nat → Int32) (n : Int32) (h : n < 2) : tx_Met l yX0_nearest wsX0_nearest { frames := 6, cells := 1, slots := 6, locals := 90 } (va_Pc [.ref (a 0)] (bX G a C K D Wt O n)) (th_Q ENS) 1 6 (fun _ => False) := by
  refine q_openT (cc := cX0_nearest) (maxL := 4) (ret := (some .long)) (by decide) rfl (Nat.le_of_ble_eq_true rfl) ?_
  intro p e s m below meth c ls S hr hlk hno hB hl
  obtain ⟨hx, hb, hml, hown, hts⟩ := id S
  obtain ⟨⟨hP, hK⟩, hG⟩ := hB
  have hin : ∀ w ∈ u_ws RX0 TX0 5, w ∈ wsX0_nearest := fun w h => tb_cons w (hinX0 w h)
  have hl : lv_has ls 4 [(0, .ref (a 0))] := hl
  refine lv_aload_n hx hb dX0_nearest_0 rfl (lv_at hl 0 rfl) ?_
  refine va_get (D := G) (ci := 0) (C := RX0) (T := TX0) (N := 5) hx hb hts hin hown hK hP 0 rfl rfl 4 (by decide) (hts _ (tb_cons _ w_fl_X0_23)) (fun _ h9 => h9) rfl dX0_nearest_1 ?_
  refine lv_iconst (v := 2) hx hb dX0_nearest_4 (by decide) ?_
  refine lv_icmp_ge (tgt := 16) hx hb dX0_nearest_5 (by decide) (fun hc => absurd hc (Int32.not_le.mpr h)) (fun _ => ?_)
  exact tx_thr (names := ENM) hx hb hL hlk hown rfl (by decide) (own_ok own_NS (fun w h => hts w (tb_cons w h)) hG (hts _ (tb_cons _ w_inst_NoSuchElementException))) (hts _ (tb_cons _ w_cl_X0_48)) (hts _ (tb_cons _ w_inst_NoSuchElementException)) (hts _ (tb_cons _ w_in_NoSuchElementException)) (Nat.le_refl _) (hl.1.trans hml.symm) dX0_nearest_8 dX0_nearest_11 dX0_nearest_12 dX0_nearest_15 hno (Nat.le_of_ble_eq_true rfl) (Nat.le_of_ble_eq_true rfl) (Nat.le_of_ble_eq_true rfl) (Nat.le_of_ble_eq_true rfl) (fun t ce hW h1 h2 h3 h4 h5 => ⟨_, ce, rfl, h3, h5, by rw [hW.alike.findClass]; exact h4, h1, h2⟩)
set_option maxHeartbeats 4000000 in
set_option maxRecDepth 100000 in
theorem bx_slide_2 (l : Launch) (hL : ∀ e : Env, l.admits e → e.platform.stackTraces = false) (G : va_G) (a : Nat → Nat) (C : Nat → ClassId) (K D : Nat → Int64) (Wt O : Nat → Int32) (Lf : Nat → Nat) (sz : Nat) (hs : sz ≤ 200) (hO : ∀ i, i < sz → O i = nI (Lf i) ∧ Lf i < 200) (hs0 : 0 < sz) {y : Int64} (h : y < (-2199023255552 : Int64) - K (Lf 0) ∨ (2199023255552 : Int64) - K (Lf (sz - 1)) < y) : tx_Met l yX0_slide wsX0_slide { frames := 6, cells := 1, slots := 6, locals := 90 } (va_Pc [.ref (a 0), .long y] (bX G a C K D Wt O (nI sz))) (th_Q EIA) 1 6 (fun _ => False) := by
  refine q_openT (cc := cX0_slide) (maxL := 8) (ret := (some .long)) (by decide) rfl (Nat.le_of_ble_eq_true rfl) ?_
  intro p e s m below meth c ls S hr hlk hno hB hl
  obtain ⟨hx, hb, hml, hown, hts⟩ := id S
  obtain ⟨⟨hP, hK⟩, hG⟩ := hB
  have hin : ∀ w ∈ u_ws RX0 TX0 5, w ∈ wsX0_slide := fun w h => tb_cons w (hinX0 w h)
  have hl : lv_has ls 8 [(0, .ref (a 0)), (1, .long y)] := hl
  refine lv_aload_n hx hb dX0_slide_0 rfl (lv_at hl 0 rfl) ?_
  refine va_get (D := G) (ci := 0) (C := RX0) (T := TX0) (N := 5) hx hb hts hin hown hK hP 0 rfl rfl 4 (by decide) (hts _ (tb_cons _ w_fl_X0_23)) (fun _ h9 => h9) rfl dX0_slide_1 ?_
  refine lv_if_ne (tgt := 15) hx hb dX0_slide_4 (by decide) (fun _ => ?_) (fun hc => absurd hc (nI_ne0 hs0 (by omega)))
  refine lv_ldc2 (v := (-2199023255552)) hx hb hown (hts _ (tb_cons _ w_k_X0_51)) dX0_slide_15 ?_
  refine lv_aload_n hx hb dX0_slide_18 rfl (lv_at hl 0 rfl) ?_
  refine lv_iconst (v := 0) hx hb dX0_slide_19 (by decide) ?_
  refine q_topi (y := nI 0) rfl ?_
  refine rd_call (W.runV (As := [.int (nI 0)]) (rest := [.long (-2199023255552)]) S (cx_keyAt l G a C K D Wt O (nI sz) (i := 0) (by omega) (hO (0) (by omega)).1 (hO (0) (by omega)).2) (cwV 1 hts (gX0_53 tb_cons) rfl rfl rfl (by decide +kernel) ⟨Nat.le_of_ble_eq_true rfl, Nat.le_of_ble_eq_true rfl⟩) (pX_V hP hK) rfl rfl hl.1 rfl (lv_room (Nat.le_of_ble_eq_true rfl)) dX0_slide_20 ⟨Nat.zero_le _, Nat.zero_le _⟩) ?_
  refine lv_lsub hx hb dX0_slide_23 ?_
  refine lv_lstore_n hx hb dX0_slide_24 rfl hl (by decide) rfl (fun ls hl => ?_)
  have hl : lv_has ls 8 [(3, .long ((-2199023255552) - (K (Lf 0)))), (0, .ref (a 0)), (1, .long y)] := hl
  refine lv_ldc2 (v := 2199023255552) hx hb hown (hts _ (tb_cons _ w_k_X0_57)) dX0_slide_25 ?_
  refine lv_aload_n hx hb dX0_slide_28 rfl (lv_at hl 1 rfl) ?_
  refine lv_aload_n hx hb dX0_slide_29 rfl (lv_at hl 1 rfl) ?_
  refine va_get (D := G) (ci := 0) (C := RX0) (T := TX0) (N := 5) hx hb hts hin hown hK hP 0 rfl rfl 4 (by decide) (hts _ (tb_cons _ w_fl_X0_23)) (fun _ h9 => h9) rfl dX0_slide_30 ?_
  refine lv_iconst (v := 1) hx hb dX0_slide_33 (by decide) ?_
  refine lv_isub hx hb dX0_slide_34 ?_
  refine q_topi (y := nI (sz - 1)) (q_pred hs0) ?_
  refine rd_call (W.runV (As := [.int (nI (sz - 1))]) (rest := [.long 2199023255552]) S (cx_keyAt l G a C K D Wt O (nI sz) (i := sz - 1) (by omega) (hO (sz - 1) (by omega)).1 (hO (sz - 1) (by omega)).2) (cwV 1 hts (gX0_53 tb_cons) rfl rfl rfl (by decide +kernel) ⟨Nat.le_of_ble_eq_true rfl, Nat.le_of_ble_eq_true rfl⟩) (pX_V hP hK) rfl rfl hl.1 rfl (lv_room (Nat.le_of_ble_eq_true rfl)) dX0_slide_35 ⟨Nat.zero_le _, Nat.zero_le _⟩) ?_
  refine lv_lsub hx hb dX0_slide_38 ?_
  refine lv_lstore hx hb dX0_slide_39 hl (by decide) rfl (fun ls hl => ?_)
  have hl : lv_has ls 8 [(5, .long (2199023255552 - (K (Lf (sz - 1))))), (3, .long ((-2199023255552) - (K (Lf 0)))), (0, .ref (a 0)), (1, .long y)] := hl
  refine lv_lload_n hx hb dX0_slide_41 rfl (lv_at hl 3 rfl) ?_
  refine lv_lload_n hx hb dX0_slide_42 rfl (lv_at hl 1 rfl) ?_
  refine W.lcmp hx hb dX0_slide_43 ?_
  refine lv_if_lt (tgt := 54) hx hb dX0_slide_44 (by decide) (fun hc => ?_) (fun hc => ?_)
  · exact tx_thr (names := ENM) hx hb hL hlk hown rfl (by decide) (own_ok own_IA (fun w h => hts w (tb_cons w h)) hG (hts _ (tb_cons _ w_inst_IllegalArgumentException))) (hts _ (tb_cons _ w_cl_X0_35)) (hts _ (tb_cons _ w_inst_IllegalArgumentException)) (hts _ (tb_cons _ w_in_IllegalArgumentException)) (Nat.le_refl _) (hl.1.trans hml.symm) dX0_slide_54 dX0_slide_57 dX0_slide_58 dX0_slide_61 hno (Nat.le_of_ble_eq_true rfl) (Nat.le_of_ble_eq_true rfl) (Nat.le_of_ble_eq_true rfl) (Nat.le_of_ble_eq_true rfl) (fun t ce hW h1 h2 h3 h4 h5 => ⟨_, ce, rfl, h3, h5, by rw [hW.alike.findClass]; exact h4, h1, h2⟩)
  · refine lv_lload_n hx hb dX0_slide_47 rfl (lv_at hl 3 rfl) ?_
    refine lv_lload hx hb dX0_slide_48 (lv_at hl 0 rfl) ?_
    refine W.lcmp hx hb dX0_slide_50 ?_
    refine lv_if_le (tgt := 62) hx hb dX0_slide_51 (by decide) (fun hc2 => absurd hc2 (fun q => Int64.not_le.mpr (h.resolve_left (fun r => hc ((lg_cmp_lt _ _).mpr r))) ((lg_cmp_le _ _).mp q))) (fun _ => ?_)
    exact tx_thr (names := ENM) hx hb hL hlk hown rfl (by decide) (own_ok own_IA (fun w h => hts w (tb_cons w h)) hG (hts _ (tb_cons _ w_inst_IllegalArgumentException))) (hts _ (tb_cons _ w_cl_X0_35)) (hts _ (tb_cons _ w_inst_IllegalArgumentException)) (hts _ (tb_cons _ w_in_IllegalArgumentException)) (Nat.le_refl _) (hl.1.trans hml.symm) dX0_slide_54 dX0_slide_57 dX0_slide_58 dX0_slide_61 hno (Nat.le_of_ble_eq_true rfl) (Nat.le_of_ble_eq_true rfl) (Nat.le_of_ble_eq_true rfl) (Nat.le_of_ble_eq_true rfl) (fun t ce hW h1 h2 h3 h4 h5 => ⟨_, ce, rfl, h3, h5, by rw [hW.alike.findClass]; exact h4, h1, h2⟩)
set_option maxHeartbeats 4000000 in
set_option maxRecDepth 100000 in
theorem bx_earliestOfPlaces (l : Launch) (hL : ∀ e : Env, l.admits e → e.platform.stackTraces = false) (G : va_G) (a : Nat → Nat) (C : Nat → ClassId) (K D : Nat → Int64) (Wt O : Nat → Int32) (n : Int32) {u v : Nat} (h : v ≤ u) (hu : u < 2 ^ 31) : tx_Met l yX0_earliestOfPlaces wsX0_earliestOfPlaces { frames := 6, cells := 1, slots := 6, locals := 90 } (va_Pc [.ref (a 0), .int (nI u), .int (nI v)] (bX G a C K D Wt O n)) (th_Q ENS) 1 6 (fun _ => False) := by
  refine q_openT (cc := cX0_earliestOfPlaces) (maxL := 5) (ret := (some .int)) (by decide) rfl (Nat.le_of_ble_eq_true rfl) ?_
  intro p e s m below meth c ls S hr hlk hno hB hl
  obtain ⟨hx, hb, hml, hown, hts⟩ := id S
  obtain ⟨⟨hP, hK⟩, hG⟩ := hB
  have hin : ∀ w ∈ u_ws RX0 TX0 5, w ∈ wsX0_earliestOfPlaces := fun w h => tb_cons w (hinX0 w h)
  have hl : lv_has ls 5 [(0, .ref (a 0)), (1, .int (nI u)), (2, .int (nI v))] := hl
  refine lv_iload_n hx hb dX0_earliestOfPlaces_0 rfl (lv_at hl 1 rfl) ?_
  refine lv_iload_n hx hb dX0_earliestOfPlaces_1 rfl (lv_at hl 2 rfl) ?_
  refine lv_icmp_lt (tgt := 13) hx hb dX0_earliestOfPlaces_2 (by decide) (fun hc => absurd hc (nI_nlt h hu)) (fun _ => ?_)
  exact tx_thr (names := ENM) hx hb hL hlk hown rfl (by decide) (own_ok own_NS (fun w h => hts w (tb_cons w h)) hG (hts _ (tb_cons _ w_inst_NoSuchElementException))) (hts _ (tb_cons _ w_cl_X0_48)) (hts _ (tb_cons _ w_inst_NoSuchElementException)) (hts _ (tb_cons _ w_in_NoSuchElementException)) (Nat.le_refl _) (hl.1.trans hml.symm) dX0_earliestOfPlaces_5 dX0_earliestOfPlaces_8 dX0_earliestOfPlaces_9 dX0_earliestOfPlaces_12 hno (Nat.le_of_ble_eq_true rfl) (Nat.le_of_ble_eq_true rfl) (Nat.le_of_ble_eq_true rfl) (Nat.le_of_ble_eq_true rfl) (fun t ce hW h1 h2 h3 h4 h5 => ⟨_, ce, rfl, h3, h5, by rw [hW.alike.findClass]; exact h4, h1, h2⟩)
set_option maxHeartbeats 4000000 in
set_option maxRecDepth 100000 in
theorem bx_earliest (l : Launch) (hL : ∀ e : Env, l.admits e → e.platform.stackTraces = false) (G : va_G) (a : Nat → Nat) (C : Nat → ClassId) (K D : Nat → Int64) (Wt O : Nat → Int32) (Lf : Nat → Nat) (sz : Nat) (hs : sz ≤ 200) (hO : ∀ i, i < sz → O i = nI (Lf i) ∧ Lf i < 200) {key : Int64} (h : (ft_fb (fun i => ft_sb K key 200 (Lf i)) sz 0) ≤ 0) : tx_Met l yX0_earliest wsX0_earliest { frames := 7, cells := 1, slots := 6, locals := 120 } (va_Pc [.ref (a 0), .long key] (bX G a C K D Wt O (nI sz))) (th_Q ENS) 1 6 (fun _ => False) := by
  refine q_openT (cc := cX0_earliest) (maxL := 3) (ret := (some .int)) (by decide) rfl (Nat.le_of_ble_eq_true rfl) ?_
  intro p e s m below meth c ls S hr hlk hno hB hl
  obtain ⟨hx, hb, hml, hown, hts⟩ := id S
  obtain ⟨⟨hP, hK⟩, hG⟩ := hB
  have hin : ∀ w ∈ u_ws RX0 TX0 5, w ∈ wsX0_earliest := fun w h => tb_cons w (hinX0 w h)
  have hl : lv_has ls 3 [(0, .ref (a 0)), (1, .long key)] := hl
  refine lv_aload_n hx hb dX0_earliest_0 rfl (lv_at hl 0 rfl) ?_
  refine lv_iconst (v := 0) hx hb dX0_earliest_1 (by decide) ?_
  refine q_topi (y := nI 0) rfl ?_
  refine lv_aload_n hx hb dX0_earliest_2 rfl (lv_at hl 0 rfl) ?_
  refine lv_lload_n hx hb dX0_earliest_3 rfl (lv_at hl 1 rfl) ?_
  refine rd_call (W.runV (As := [.long key]) (rest := [.int (nI 0), .ref (a 0)]) S (cx_placesNotAbove l G a C K D Wt O Lf sz hs hO key) (cwV 1 hts (gX0_63 tb_cons) rfl rfl rfl (by decide +kernel) ⟨Nat.le_of_ble_eq_true rfl, Nat.le_of_ble_eq_true rfl⟩) (pX_V hP hK) rfl rfl hl.1 rfl (lv_room (Nat.le_of_ble_eq_true rfl)) dX0_earliest_4 ⟨Nat.zero_le _, Nat.zero_le _⟩) ?_
  refine tx_runV (As := [.int (nI 0), .int (nI (ft_fb (fun i => ft_sb K key 200 (Lf i)) sz 0))]) (rest := []) S (bx_earliestOfPlaces l hL G a C K D Wt O (nI sz) (u := 0) (v := (ft_fb (fun i => ft_sb K key 200 (Lf i)) sz 0)) h (by decide)) (cwV 2 hts (gX0_67 tb_cons) rfl rfl rfl (by decide +kernel) ⟨Nat.le_of_ble_eq_true rfl, Nat.le_of_ble_eq_true rfl⟩) (pXb_V hP hK hG) rfl hl.1 rfl (lv_room (Nat.le_of_ble_eq_true rfl)) dX0_earliest_7 ⟨Nat.le_of_ble_eq_true rfl, Nat.le_of_ble_eq_true rfl⟩ (fun o st t H1 L h0 h1 ha9 hq hL9 => ?_)
  obtain ⟨x9, ce, ho, h3, h5, h4, h6, h7⟩ := hq
  subst ho
  refine ⟨fun v hv => (by cases hv), fun x hx9 => ?_⟩
  cases hx9
  exact tx_out hlk (fun q hq => by rw [hno] at hq; cases hq) (fun u hu hW9 => ⟨x9, ce, rfl, by rw [hu, ← h1]; exact h3, h5, by rw [hW9.alike.findClass, ← ha9.findClass]; exact h4, by rw [hu, ← h1, ← h0]; exact h6, fun q hq => by rw [hu, ← h1, ← h0]; exact h7 q (by rw [h0]; exact hq)⟩) (fun q hq => (hL9 q hq).elim)
set_option maxHeartbeats 4000000 in
set_option maxRecDepth 100000 in
theorem bx_between (l : Launch) (hL : ∀ e : Env, l.admits e → e.platform.stackTraces = false) (G : va_G) (a : Nat → Nat) (C : Nat → ClassId) (K D : Nat → Int64) (Wt O : Nat → Int32) (Lf : Nat → Nat) (sz : Nat) (hs : sz ≤ 200) (hO : ∀ i, i < sz → O i = nI (Lf i) ∧ Lf i < 200) {lo hi : Int64} (h : (ft_fb (fun i => ft_sb K hi 200 (Lf i)) sz 0) ≤ (ft_fb (fun i => ft_sb K lo 0 (Lf i)) sz 0)) : tx_Met l yX0_between wsX0_between { frames := 7, cells := 1, slots := 6, locals := 120 } (va_Pc [.ref (a 0), .long lo, .long hi] (bX G a C K D Wt O (nI sz))) (th_Q ENS) 1 6 (fun _ => False) := by
  refine q_openT (cc := cX0_between) (maxL := 5) (ret := (some .int)) (by decide) rfl (Nat.le_of_ble_eq_true rfl) ?_
  intro p e s m below meth c ls S hr hlk hno hB hl
  obtain ⟨hx, hb, hml, hown, hts⟩ := id S
  obtain ⟨⟨hP, hK⟩, hG⟩ := hB
  have hin : ∀ w ∈ u_ws RX0 TX0 5, w ∈ wsX0_between := fun w h => tb_cons w (hinX0 w h)
  have hl : lv_has ls 5 [(0, .ref (a 0)), (1, .long lo), (3, .long hi)] := hl
  refine lv_aload_n hx hb dX0_between_0 rfl (lv_at hl 0 rfl) ?_
  refine lv_aload_n hx hb dX0_between_1 rfl (lv_at hl 0 rfl) ?_
  refine lv_lload_n hx hb dX0_between_2 rfl (lv_at hl 1 rfl) ?_
  refine rd_call (W.runV (As := [.long lo]) (rest := [.ref (a 0)]) S (cx_placesBelow l G a C K D Wt O Lf sz hs hO lo) (cwV 1 hts (gX0_71 tb_cons) rfl rfl rfl (by decide +kernel) ⟨Nat.le_of_ble_eq_true rfl, Nat.le_of_ble_eq_true rfl⟩) (pX_V hP hK) rfl rfl hl.1 rfl (lv_room (Nat.le_of_ble_eq_true rfl)) dX0_between_3 ⟨Nat.zero_le _, Nat.zero_le _⟩) ?_
  refine lv_aload_n hx hb dX0_between_6 rfl (lv_at hl 0 rfl) ?_
  refine lv_lload_n hx hb dX0_between_7 rfl (lv_at hl 2 rfl) ?_
  refine rd_call (W.runV (As := [.long hi]) (rest := [.int (nI (ft_fb (fun i => ft_sb K lo 0 (Lf i)) sz 0)), .ref (a 0)]) S (cx_placesNotAbove l G a C K D Wt O Lf sz hs hO hi) (cwV 1 hts (gX0_63 tb_cons) rfl rfl rfl (by decide +kernel) ⟨Nat.le_of_ble_eq_true rfl, Nat.le_of_ble_eq_true rfl⟩) (pX_V hP hK) rfl rfl hl.1 rfl (lv_room (Nat.le_of_ble_eq_true rfl)) dX0_between_8 ⟨Nat.zero_le _, Nat.zero_le _⟩) ?_
  refine tx_runV (As := [.int (nI (ft_fb (fun i => ft_sb K lo 0 (Lf i)) sz 0)), .int (nI (ft_fb (fun i => ft_sb K hi 200 (Lf i)) sz 0))]) (rest := []) S (bx_earliestOfPlaces l hL G a C K D Wt O (nI sz) (u := (ft_fb (fun i => ft_sb K lo 0 (Lf i)) sz 0)) (v := (ft_fb (fun i => ft_sb K hi 200 (Lf i)) sz 0)) h (by have := (ft_fb_spec (fun i => ft_sb K lo 0 (Lf i)) sz 0).2.1; omega)) (cwV 2 hts (gX0_67 tb_cons) rfl rfl rfl (by decide +kernel) ⟨Nat.le_of_ble_eq_true rfl, Nat.le_of_ble_eq_true rfl⟩) (pXb_V hP hK hG) rfl hl.1 rfl (lv_room (Nat.le_of_ble_eq_true rfl)) dX0_between_11 ⟨Nat.le_of_ble_eq_true rfl, Nat.le_of_ble_eq_true rfl⟩ (fun o st t H1 L h0 h1 ha9 hq hL9 => ?_)
  obtain ⟨x9, ce, ho, h3, h5, h4, h6, h7⟩ := hq
  subst ho
  refine ⟨fun v hv => (by cases hv), fun x hx9 => ?_⟩
  cases hx9
  exact tx_out hlk (fun q hq => by rw [hno] at hq; cases hq) (fun u hu hW9 => ⟨x9, ce, rfl, by rw [hu, ← h1]; exact h3, h5, by rw [hW9.alike.findClass, ← ha9.findClass]; exact h4, by rw [hu, ← h1, ← h0]; exact h6, fun q hq => by rw [hu, ← h1, ← h0]; exact h7 q (by rw [h0]; exact hq)⟩) (fun q hq => (hL9 q hq).elim)
set_option maxHeartbeats 4000000 in
set_option maxRecDepth 100000 in
theorem bx_pick (l : Launch) (hL : ∀ e : Env, l.admits e → e.platform.stackTraces = false) (G : va_G) (a : Nat → Nat) (C : Nat → ClassId) (K D : Nat → Int64) (Wt O : Nat → Int32) (Lf : Nat → Nat) (sz : Nat) (hs : sz ≤ 200) (hO : ∀ i, i < sz → O i = nI (Lf i) ∧ Lf i < 200) (h : (ft_fb (fun i => decide (K (Lf i) * (ft_sum (fun a b : Int32 => a + b) 0 (fun i => Wt (Lf i)) sz).toInt64 ≤ (ft_sum (fun a b : Int64 => a + b) 0 (fun i => K (Lf i) * (Wt (Lf i)).toInt64) sz))) sz 0) ≤ 0) : tx_Met l yX0_pick wsX0_pick { frames := 7, cells := 1, slots := 6, locals := 120 } (va_Pc [.ref (a 0)] (bX G a C K D Wt O (nI sz))) (th_Q ENS) 1 6 (fun _ => False) := by
  refine q_openT (cc := cX0_pick) (maxL := 1) (ret := (some .int)) (by decide) rfl (Nat.le_of_ble_eq_true rfl) ?_
  intro p e s m below meth c ls S hr hlk hno hB hl
  obtain ⟨hx, hb, hml, hown, hts⟩ := id S
  obtain ⟨⟨hP, hK⟩, hG⟩ := hB
  have hin : ∀ w ∈ u_ws RX0 TX0 5, w ∈ wsX0_pick := fun w h => tb_cons w (hinX0 w h)
  have hl : lv_has ls 1 [(0, .ref (a 0))] := hl
  refine lv_aload_n hx hb dX0_pick_0 rfl (lv_at hl 0 rfl) ?_
  refine lv_iconst (v := 0) hx hb dX0_pick_1 (by decide) ?_
  refine q_topi (y := nI 0) rfl ?_
  refine lv_aload_n hx hb dX0_pick_2 rfl (lv_at hl 0 rfl) ?_
  refine rd_call (W.runV (As := []) (rest := [.int (nI 0), .ref (a 0)]) S (cx_fairPlaces l G a C K D Wt O Lf sz hs hO) (cwV 0 hts (gX0_74 tb_cons) rfl rfl rfl (by decide +kernel) ⟨Nat.le_of_ble_eq_true rfl, Nat.le_of_ble_eq_true rfl⟩) (pX_V hP hK) rfl rfl hl.1 rfl (lv_room (Nat.le_of_ble_eq_true rfl)) dX0_pick_3 ⟨Nat.zero_le _, Nat.zero_le _⟩) ?_
  refine tx_runV (As := [.int (nI 0), .int (nI (ft_fb (fun i => decide (K (Lf i) * (ft_sum (fun a b : Int32 => a + b) 0 (fun i => Wt (Lf i)) sz).toInt64 ≤ (ft_sum (fun a b : Int64 => a + b) 0 (fun i => K (Lf i) * (Wt (Lf i)).toInt64) sz))) sz 0))]) (rest := []) S (bx_earliestOfPlaces l hL G a C K D Wt O (nI sz) (u := 0) (v := (ft_fb (fun i => decide (K (Lf i) * (ft_sum (fun a b : Int32 => a + b) 0 (fun i => Wt (Lf i)) sz).toInt64 ≤ (ft_sum (fun a b : Int64 => a + b) 0 (fun i => K (Lf i) * (Wt (Lf i)).toInt64) sz))) sz 0)) h (by decide)) (cwV 2 hts (gX0_67 tb_cons) rfl rfl rfl (by decide +kernel) ⟨Nat.le_of_ble_eq_true rfl, Nat.le_of_ble_eq_true rfl⟩) (pXb_V hP hK hG) rfl hl.1 rfl (lv_room (Nat.le_of_ble_eq_true rfl)) dX0_pick_6 ⟨Nat.le_of_ble_eq_true rfl, Nat.le_of_ble_eq_true rfl⟩ (fun o st t H1 L h0 h1 ha9 hq hL9 => ?_)
  obtain ⟨x9, ce, ho, h3, h5, h4, h6, h7⟩ := hq
  subst ho
  refine ⟨fun v hv => (by cases hv), fun x hx9 => ?_⟩
  cases hx9
  exact tx_out hlk (fun q hq => by rw [hno] at hq; cases hq) (fun u hu hW9 => ⟨x9, ce, rfl, by rw [hu, ← h1]; exact h3, h5, by rw [hW9.alike.findClass, ← ha9.findClass]; exact h4, by rw [hu, ← h1, ← h0]; exact h6, fun q hq => by rw [hu, ← h1, ← h0]; exact h7 q (by rw [h0]; exact hq)⟩) (fun q hq => (hL9 q hq).elim)
