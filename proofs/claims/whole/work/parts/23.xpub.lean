set_option maxHeartbeats 4000000 in
set_option maxRecDepth 100000 in
theorem cx_at (l : Launch) (G : va_G) (a : Nat → Nat) (C : Nat → ClassId) (K D : Nat → Int64) (Wt O : Nat → Int32) (Lf : Nat → Nat) (sz : Nat) (hs : sz ≤ 200) (hO : ∀ i, i < sz → O i = nI (Lf i) ∧ Lf i < 200) {i : Nat} (hi : i < sz) : Met l yX0_at wsX0_at rm0 (va_Pc [.ref (a 0), .int (nI i)] (rX G a C K D Wt O (nI sz))) (rd_Q (.int (nI (Lf i)))) 0 0 (fun _ => False) := by
  refine q_open (cc := cX0_at) (maxL := 2) (ret := (some .int)) (by decide) rfl (Nat.le_of_ble_eq_true rfl) ?_
  intro p e s m below meth c ls S hr hlk hB hl
  obtain ⟨hx, hb, hml, hown, hts⟩ := id S
  obtain ⟨hP, hK⟩ := hB
  have hin : ∀ w ∈ u_ws RX0 TX0 5, w ∈ wsX0_at := fun w h => tb_cons w (hinX0 w h)
  have hl : lv_has ls 2 [(0, .ref (a 0)), (1, .int (nI i))] := hl
  refine lv_iload_n hx hb dX0_at_0 rfl (lv_at hl 1 rfl) ?_
  refine lv_if_lt (tgt := 12) hx hb dX0_at_1 (by decide) (fun hc => absurd hc (nI_pos (by omega))) (fun _ => ?_)
  refine lv_iload_n hx hb dX0_at_4 rfl (lv_at hl 1 rfl) ?_
  refine lv_aload_n hx hb dX0_at_5 rfl (lv_at hl 0 rfl) ?_
  refine va_get (D := G) (ci := 0) (C := RX0) (T := TX0) (N := 5) hx hb hts hin hown hK hP 0 rfl rfl 4 (by decide) (hts _ (tb_cons _ w_fl_X0_23)) (fun _ h9 => h9) rfl dX0_at_6 ?_
  refine lv_icmp_lt (tgt := 20) hx hb dX0_at_9 (by decide) (fun _ => ?_) (fun hc => absurd (nI_lt hi (by omega)) hc)
  refine lv_aload_n hx hb dX0_at_20 rfl (lv_at hl 0 rfl) ?_
  refine va_get (D := G) (ci := 0) (C := RX0) (T := TX0) (N := 5) hx hb hts hin hown hK hP 0 rfl rfl 3 (by decide) (hts _ (tb_cons _ w_fl_X0_20)) (fun _ h9 => h9) rfl dX0_at_21 ?_
  refine lv_iload_n hx hb dX0_at_24 rfl (lv_at hl 1 rfl) ?_
  refine q_iald hx hb hK hP 4 3 rfl rfl (i) rfl (by omega) (by decide) dX0_at_25 ?_
  exact W.iret hx hb hr (fun t ht _ => ⟨by rw [(hO i hi).1], ht⟩) (fun q h => by cases h) dX0_at_26
set_option maxHeartbeats 4000000 in
set_option maxRecDepth 100000 in
theorem cx_rank (l : Launch) (G : va_G) (a : Nat → Nat) (C : Nat → ClassId) (K D : Nat → Int64) (Wt O : Nat → Int32) (Lf : Nat → Nat) (sz : Nat) (hs : sz ≤ 200) (hO : ∀ i, i < sz → O i = nI (Lf i) ∧ Lf i < 200) {j : Nat} (hj : j < 200) (ht : 0 < Wt j) : Met l yX0_rank wsX0_rank { frames := 2, cells := 0, slots := 0, locals := 60 } (va_Pc [.ref (a 0), .int (nI j)] (rX G a C K D Wt O (nI sz))) (rd_Q (.int (nI (ft_fb (fun i => ft_sb K (K j) (nI j) (Lf i)) sz 0)))) 0 0 (fun _ => False) := by
  refine q_open (cc := cX0_rank) (maxL := 2) (ret := (some .int)) (by decide) rfl (Nat.le_of_ble_eq_true rfl) ?_
  intro p e s m below meth c ls S hr hlk hB hl
  obtain ⟨hx, hb, hml, hown, hts⟩ := id S
  obtain ⟨hP, hK⟩ := hB
  have hin : ∀ w ∈ u_ws RX0 TX0 5, w ∈ wsX0_rank := fun w h => tb_cons w (hinX0 w h)
  have hl : lv_has ls 2 [(0, .ref (a 0)), (1, .int (nI j))] := hl
  refine lv_aload_n hx hb dX0_rank_0 rfl (lv_at hl 0 rfl) ?_
  refine lv_iload_n hx hb dX0_rank_1 rfl (lv_at hl 1 rfl) ?_
  refine rd_call (W.runV (As := [.int (nI j)]) (rest := []) S (cx_isThere_yes l G a C K D Wt O (nI sz) hj ht) (cwV 1 hts (gX0_38 tb_cons) rfl rfl rfl (by decide +kernel) ⟨Nat.le_of_ble_eq_true rfl, Nat.le_of_ble_eq_true rfl⟩) (pX_V hP hK) rfl rfl hl.1 rfl (lv_room (Nat.le_of_ble_eq_true rfl)) dX0_rank_2 ⟨Nat.zero_le _, Nat.zero_le _⟩) ?_
  refine lv_if_ne (tgt := 16) hx hb dX0_rank_5 (by decide) (fun _ => ?_) (fun hc => absurd hc (by decide))
  refine lv_aload_n hx hb dX0_rank_16 rfl (lv_at hl 0 rfl) ?_
  refine lv_aload_n hx hb dX0_rank_17 rfl (lv_at hl 0 rfl) ?_
  refine va_get (D := G) (ci := 0) (C := RX0) (T := TX0) (N := 5) hx hb hts hin hown hK hP 0 rfl rfl 0 (by decide) (hts _ (tb_cons _ w_fl_X0_9)) (fun _ h9 => h9) rfl dX0_rank_18 ?_
  refine lv_iload_n hx hb dX0_rank_21 rfl (lv_at hl 1 rfl) ?_
  refine q_lald hx hb hK hP 1 0 rfl rfl (j) rfl hj (by decide) dX0_rank_22 ?_
  refine lv_iload_n hx hb dX0_rank_23 rfl (lv_at hl 1 rfl) ?_
  refine rd_call (W.runV (As := [.long (K j), .int (nI j)]) (rest := []) S (cx_placesBefore l G a C K D Wt O Lf sz hs hO (K j) (nI j)) (cwV 2 hts (gX0_59 tb_cons) rfl rfl rfl (by decide +kernel) ⟨Nat.le_of_ble_eq_true rfl, Nat.le_of_ble_eq_true rfl⟩) (pX_V hP hK) rfl rfl hl.1 rfl (lv_room (Nat.le_of_ble_eq_true rfl)) dX0_rank_24 ⟨Nat.zero_le _, Nat.zero_le _⟩) ?_
  exact W.iret hx hb hr (fun t ht _ => ⟨rfl, ht⟩) (fun q h => by cases h) dX0_rank_27
set_option maxHeartbeats 4000000 in
set_option maxRecDepth 100000 in
theorem cx_told_k (l : Launch) (G : va_G) (a : Nat → Nat) (C : Nat → ClassId) (K D : Nat → Int64) (Wt O : Nat → Int32) (Lf : Nat → Nat) (sz : Nat) (hs : sz ≤ 200) (hO : ∀ i, i < sz → O i = nI (Lf i) ∧ Lf i < 200) {j : Nat} (hj : j < 200) (ht : 0 < Wt j) : Met l yX0_told wsX0_told { frames := 2, cells := 0, slots := 0, locals := 60 } (va_Pc [.ref (a 0), .int (nI j), .int 0] (rX G a C K D Wt O (nI sz))) (rd_Q (.long (K j))) 0 0 (fun _ => False) := by
  refine q_open (cc := cX0_told) (maxL := 3) (ret := (some .long)) (by decide) rfl (Nat.le_of_ble_eq_true rfl) ?_
  intro p e s m below meth c ls S hr hlk hB hl
  obtain ⟨hx, hb, hml, hown, hts⟩ := id S
  obtain ⟨hP, hK⟩ := hB
  have hin : ∀ w ∈ u_ws RX0 TX0 5, w ∈ wsX0_told := fun w h => tb_cons w (hinX0 w h)
  have hl : lv_has ls 3 [(0, .ref (a 0)), (1, .int (nI j)), (2, .int 0)] := hl
  refine lv_aload_n hx hb dX0_told_0 rfl (lv_at hl 0 rfl) ?_
  refine lv_iload_n hx hb dX0_told_1 rfl (lv_at hl 1 rfl) ?_
  refine rd_call (W.runV (As := [.int (nI j)]) (rest := []) S (cx_isThere_yes l G a C K D Wt O (nI sz) hj ht) (cwV 1 hts (gX0_38 tb_cons) rfl rfl rfl (by decide +kernel) ⟨Nat.le_of_ble_eq_true rfl, Nat.le_of_ble_eq_true rfl⟩) (pX_V hP hK) rfl rfl hl.1 rfl (lv_room (Nat.le_of_ble_eq_true rfl)) dX0_told_2 ⟨Nat.zero_le _, Nat.zero_le _⟩) ?_
  refine lv_if_ne (tgt := 16) hx hb dX0_told_5 (by decide) (fun _ => ?_) (fun hc => absurd hc (by decide))
  refine lv_iload_n hx hb dX0_told_16 rfl (lv_at hl 2 rfl) ?_
  refine lv_tableIn (off := 27) (tgt := 44) hx hb dX0_told_17 (by decide) (by decide) (by decide) (by decide) ?_
  refine lv_aload_n hx hb dX0_told_44 rfl (lv_at hl 0 rfl) ?_
  refine va_get (D := G) (ci := 0) (C := RX0) (T := TX0) (N := 5) hx hb hts hin hown hK hP 0 rfl rfl 0 (by decide) (hts _ (tb_cons _ w_fl_X0_9)) (fun _ h9 => h9) rfl dX0_told_45 ?_
  refine lv_iload_n hx hb dX0_told_48 rfl (lv_at hl 1 rfl) ?_
  refine q_lald hx hb hK hP 1 0 rfl rfl (j) rfl hj (by decide) dX0_told_49 ?_
  exact W.lret hx hb hr (fun t ht _ => ⟨rfl, ht⟩) (fun q h => by cases h) dX0_told_50
set_option maxHeartbeats 4000000 in
set_option maxRecDepth 100000 in
theorem cx_told_d (l : Launch) (G : va_G) (a : Nat → Nat) (C : Nat → ClassId) (K D : Nat → Int64) (Wt O : Nat → Int32) (Lf : Nat → Nat) (sz : Nat) (hs : sz ≤ 200) (hO : ∀ i, i < sz → O i = nI (Lf i) ∧ Lf i < 200) {j : Nat} (hj : j < 200) (ht : 0 < Wt j) : Met l yX0_told wsX0_told { frames := 2, cells := 0, slots := 0, locals := 60 } (va_Pc [.ref (a 0), .int (nI j), .int 1] (rX G a C K D Wt O (nI sz))) (rd_Q (.long (D j))) 0 0 (fun _ => False) := by
  refine q_open (cc := cX0_told) (maxL := 3) (ret := (some .long)) (by decide) rfl (Nat.le_of_ble_eq_true rfl) ?_
  intro p e s m below meth c ls S hr hlk hB hl
  obtain ⟨hx, hb, hml, hown, hts⟩ := id S
  obtain ⟨hP, hK⟩ := hB
  have hin : ∀ w ∈ u_ws RX0 TX0 5, w ∈ wsX0_told := fun w h => tb_cons w (hinX0 w h)
  have hl : lv_has ls 3 [(0, .ref (a 0)), (1, .int (nI j)), (2, .int 1)] := hl
  refine lv_aload_n hx hb dX0_told_0 rfl (lv_at hl 0 rfl) ?_
  refine lv_iload_n hx hb dX0_told_1 rfl (lv_at hl 1 rfl) ?_
  refine rd_call (W.runV (As := [.int (nI j)]) (rest := []) S (cx_isThere_yes l G a C K D Wt O (nI sz) hj ht) (cwV 1 hts (gX0_38 tb_cons) rfl rfl rfl (by decide +kernel) ⟨Nat.le_of_ble_eq_true rfl, Nat.le_of_ble_eq_true rfl⟩) (pX_V hP hK) rfl rfl hl.1 rfl (lv_room (Nat.le_of_ble_eq_true rfl)) dX0_told_2 ⟨Nat.zero_le _, Nat.zero_le _⟩) ?_
  refine lv_if_ne (tgt := 16) hx hb dX0_told_5 (by decide) (fun _ => ?_) (fun hc => absurd hc (by decide))
  refine lv_iload_n hx hb dX0_told_16 rfl (lv_at hl 2 rfl) ?_
  refine lv_tableIn (off := 34) (tgt := 51) hx hb dX0_told_17 (by decide) (by decide) (by decide) (by decide) ?_
  refine lv_aload_n hx hb dX0_told_51 rfl (lv_at hl 0 rfl) ?_
  refine va_get (D := G) (ci := 0) (C := RX0) (T := TX0) (N := 5) hx hb hts hin hown hK hP 0 rfl rfl 1 (by decide) (hts _ (tb_cons _ w_fl_X0_13)) (fun _ h9 => h9) rfl dX0_told_52 ?_
  refine lv_iload_n hx hb dX0_told_55 rfl (lv_at hl 1 rfl) ?_
  refine q_lald hx hb hK hP 2 1 rfl rfl (j) rfl hj (by decide) dX0_told_56 ?_
  exact W.lret hx hb hr (fun t ht _ => ⟨rfl, ht⟩) (fun q h => by cases h) dX0_told_57
set_option maxHeartbeats 4000000 in
set_option maxRecDepth 100000 in
theorem cx_told_w (l : Launch) (G : va_G) (a : Nat → Nat) (C : Nat → ClassId) (K D : Nat → Int64) (Wt O : Nat → Int32) (Lf : Nat → Nat) (sz : Nat) (hs : sz ≤ 200) (hO : ∀ i, i < sz → O i = nI (Lf i) ∧ Lf i < 200) {j : Nat} (hj : j < 200) (ht : 0 < Wt j) : Met l yX0_told wsX0_told { frames := 2, cells := 0, slots := 0, locals := 60 } (va_Pc [.ref (a 0), .int (nI j), .int 2] (rX G a C K D Wt O (nI sz))) (rd_Q (.long ((Wt j).toInt64))) 0 0 (fun _ => False) := by
  refine q_open (cc := cX0_told) (maxL := 3) (ret := (some .long)) (by decide) rfl (Nat.le_of_ble_eq_true rfl) ?_
  intro p e s m below meth c ls S hr hlk hB hl
  obtain ⟨hx, hb, hml, hown, hts⟩ := id S
  obtain ⟨hP, hK⟩ := hB
  have hin : ∀ w ∈ u_ws RX0 TX0 5, w ∈ wsX0_told := fun w h => tb_cons w (hinX0 w h)
  have hl : lv_has ls 3 [(0, .ref (a 0)), (1, .int (nI j)), (2, .int 2)] := hl
  refine lv_aload_n hx hb dX0_told_0 rfl (lv_at hl 0 rfl) ?_
  refine lv_iload_n hx hb dX0_told_1 rfl (lv_at hl 1 rfl) ?_
  refine rd_call (W.runV (As := [.int (nI j)]) (rest := []) S (cx_isThere_yes l G a C K D Wt O (nI sz) hj ht) (cwV 1 hts (gX0_38 tb_cons) rfl rfl rfl (by decide +kernel) ⟨Nat.le_of_ble_eq_true rfl, Nat.le_of_ble_eq_true rfl⟩) (pX_V hP hK) rfl rfl hl.1 rfl (lv_room (Nat.le_of_ble_eq_true rfl)) dX0_told_2 ⟨Nat.zero_le _, Nat.zero_le _⟩) ?_
  refine lv_if_ne (tgt := 16) hx hb dX0_told_5 (by decide) (fun _ => ?_) (fun hc => absurd hc (by decide))
  refine lv_iload_n hx hb dX0_told_16 rfl (lv_at hl 2 rfl) ?_
  refine lv_tableIn (off := 41) (tgt := 58) hx hb dX0_told_17 (by decide) (by decide) (by decide) (by decide) ?_
  refine lv_aload_n hx hb dX0_told_58 rfl (lv_at hl 0 rfl) ?_
  refine va_get (D := G) (ci := 0) (C := RX0) (T := TX0) (N := 5) hx hb hts hin hown hK hP 0 rfl rfl 2 (by decide) (hts _ (tb_cons _ w_fl_X0_16)) (fun _ h9 => h9) rfl dX0_told_59 ?_
  refine lv_iload_n hx hb dX0_told_62 rfl (lv_at hl 1 rfl) ?_
  refine q_iald hx hb hK hP 3 2 rfl rfl (j) rfl hj (by decide) dX0_told_63 ?_
  refine lv_i2l hx hb dX0_told_64 rfl ?_
  exact W.lret hx hb hr (fun t ht _ => ⟨rfl, ht⟩) (fun q h => by cases h) dX0_told_65
set_option maxHeartbeats 4000000 in
set_option maxRecDepth 100000 in
theorem cx_earliest (l : Launch) (G : va_G) (a : Nat → Nat) (C : Nat → ClassId) (K D : Nat → Int64) (Wt O : Nat → Int32) (Lf : Nat → Nat) (sz : Nat) (hs : sz ≤ 200) (hO : ∀ i, i < sz → O i = nI (Lf i) ∧ Lf i < 200) (key : Int64) (h0 : 0 < (ft_fb (fun i => ft_sb K key 200 (Lf i)) sz 0)) : Met l yX0_earliest wsX0_earliest { frames := 3, cells := 0, slots := 0, locals := 90 } (va_Pc [.ref (a 0), .long key] (rX G a C K D Wt O (nI sz))) (rd_Q (.int (nI (ft_em D Lf ((ft_fb (fun i => ft_sb K key 200 (Lf i)) sz 0) - 0 - 1) (0 + 1) (Lf 0))))) 0 0 (fun _ => False) := by
  refine q_open (cc := cX0_earliest) (maxL := 3) (ret := (some .int)) (by decide) rfl (Nat.le_of_ble_eq_true rfl) ?_
  intro p e s m below meth c ls S hr hlk hB hl
  obtain ⟨hx, hb, hml, hown, hts⟩ := id S
  obtain ⟨hP, hK⟩ := hB
  have hin : ∀ w ∈ u_ws RX0 TX0 5, w ∈ wsX0_earliest := fun w h => tb_cons w (hinX0 w h)
  have hl : lv_has ls 3 [(0, .ref (a 0)), (1, .long key)] := hl
  refine lv_aload_n hx hb dX0_earliest_0 rfl (lv_at hl 0 rfl) ?_
  refine lv_iconst (v := 0) hx hb dX0_earliest_1 (by decide) ?_
  refine q_topi (y := nI 0) rfl ?_
  refine lv_aload_n hx hb dX0_earliest_2 rfl (lv_at hl 0 rfl) ?_
  refine lv_lload_n hx hb dX0_earliest_3 rfl (lv_at hl 1 rfl) ?_
  refine rd_call (W.runV (As := [.long key]) (rest := [.int (nI 0), .ref (a 0)]) S (cx_placesNotAbove l G a C K D Wt O Lf sz hs hO key) (cwV 1 hts (gX0_63 tb_cons) rfl rfl rfl (by decide +kernel) ⟨Nat.le_of_ble_eq_true rfl, Nat.le_of_ble_eq_true rfl⟩) (pX_V hP hK) rfl rfl hl.1 rfl (lv_room (Nat.le_of_ble_eq_true rfl)) dX0_earliest_4 ⟨Nat.zero_le _, Nat.zero_le _⟩) ?_
  refine rd_call (W.runV (As := [.int (nI 0), .int (nI (ft_fb (fun i => ft_sb K key 200 (Lf i)) sz 0))]) (rest := []) S (cx_earliestOfPlaces l G a C K D Wt O Lf sz hs hO (u := 0) (v := (ft_fb (fun i => ft_sb K key 200 (Lf i)) sz 0)) h0 (by have := (ft_fb_spec (fun i => ft_sb K key 200 (Lf i)) sz 0).2.1; omega)) (cwV 2 hts (gX0_67 tb_cons) rfl rfl rfl (by decide +kernel) ⟨Nat.le_of_ble_eq_true rfl, Nat.le_of_ble_eq_true rfl⟩) (pX_V hP hK) rfl rfl hl.1 rfl (lv_room (Nat.le_of_ble_eq_true rfl)) dX0_earliest_7 ⟨Nat.zero_le _, Nat.zero_le _⟩) ?_
  exact W.iret hx hb hr (fun t ht _ => ⟨rfl, ht⟩) (fun q h => by cases h) dX0_earliest_10
set_option maxHeartbeats 4000000 in
set_option maxRecDepth 100000 in
theorem cx_between (l : Launch) (G : va_G) (a : Nat → Nat) (C : Nat → ClassId) (K D : Nat → Int64) (Wt O : Nat → Int32) (Lf : Nat → Nat) (sz : Nat) (hs : sz ≤ 200) (hO : ∀ i, i < sz → O i = nI (Lf i) ∧ Lf i < 200) (lo hi : Int64) (h0 : (ft_fb (fun i => ft_sb K lo 0 (Lf i)) sz 0) < (ft_fb (fun i => ft_sb K hi 200 (Lf i)) sz 0)) : Met l yX0_between wsX0_between { frames := 3, cells := 0, slots := 0, locals := 90 } (va_Pc [.ref (a 0), .long lo, .long hi] (rX G a C K D Wt O (nI sz))) (rd_Q (.int (nI (ft_em D Lf ((ft_fb (fun i => ft_sb K hi 200 (Lf i)) sz 0) - (ft_fb (fun i => ft_sb K lo 0 (Lf i)) sz 0) - 1) ((ft_fb (fun i => ft_sb K lo 0 (Lf i)) sz 0) + 1) (Lf (ft_fb (fun i => ft_sb K lo 0 (Lf i)) sz 0)))))) 0 0 (fun _ => False) := by
  refine q_open (cc := cX0_between) (maxL := 5) (ret := (some .int)) (by decide) rfl (Nat.le_of_ble_eq_true rfl) ?_
  intro p e s m below meth c ls S hr hlk hB hl
  obtain ⟨hx, hb, hml, hown, hts⟩ := id S
  obtain ⟨hP, hK⟩ := hB
  have hin : ∀ w ∈ u_ws RX0 TX0 5, w ∈ wsX0_between := fun w h => tb_cons w (hinX0 w h)
  have hl : lv_has ls 5 [(0, .ref (a 0)), (1, .long lo), (3, .long hi)] := hl
  refine lv_aload_n hx hb dX0_between_0 rfl (lv_at hl 0 rfl) ?_
  refine lv_aload_n hx hb dX0_between_1 rfl (lv_at hl 0 rfl) ?_
  refine lv_lload_n hx hb dX0_between_2 rfl (lv_at hl 1 rfl) ?_
  refine rd_call (W.runV (As := [.long lo]) (rest := [.ref (a 0)]) S (cx_placesBelow l G a C K D Wt O Lf sz hs hO lo) (cwV 1 hts (gX0_71 tb_cons) rfl rfl rfl (by decide +kernel) ⟨Nat.le_of_ble_eq_true rfl, Nat.le_of_ble_eq_true rfl⟩) (pX_V hP hK) rfl rfl hl.1 rfl (lv_room (Nat.le_of_ble_eq_true rfl)) dX0_between_3 ⟨Nat.zero_le _, Nat.zero_le _⟩) ?_
  refine lv_aload_n hx hb dX0_between_6 rfl (lv_at hl 0 rfl) ?_
  refine lv_lload_n hx hb dX0_between_7 rfl (lv_at hl 2 rfl) ?_
  refine rd_call (W.runV (As := [.long hi]) (rest := [.int (nI (ft_fb (fun i => ft_sb K lo 0 (Lf i)) sz 0)), .ref (a 0)]) S (cx_placesNotAbove l G a C K D Wt O Lf sz hs hO hi) (cwV 1 hts (gX0_63 tb_cons) rfl rfl rfl (by decide +kernel) ⟨Nat.le_of_ble_eq_true rfl, Nat.le_of_ble_eq_true rfl⟩) (pX_V hP hK) rfl rfl hl.1 rfl (lv_room (Nat.le_of_ble_eq_true rfl)) dX0_between_8 ⟨Nat.zero_le _, Nat.zero_le _⟩) ?_
  refine rd_call (W.runV (As := [.int (nI (ft_fb (fun i => ft_sb K lo 0 (Lf i)) sz 0)), .int (nI (ft_fb (fun i => ft_sb K hi 200 (Lf i)) sz 0))]) (rest := []) S (cx_earliestOfPlaces l G a C K D Wt O Lf sz hs hO (u := (ft_fb (fun i => ft_sb K lo 0 (Lf i)) sz 0)) (v := (ft_fb (fun i => ft_sb K hi 200 (Lf i)) sz 0)) h0 (by have := (ft_fb_spec (fun i => ft_sb K hi 200 (Lf i)) sz 0).2.1; omega)) (cwV 2 hts (gX0_67 tb_cons) rfl rfl rfl (by decide +kernel) ⟨Nat.le_of_ble_eq_true rfl, Nat.le_of_ble_eq_true rfl⟩) (pX_V hP hK) rfl rfl hl.1 rfl (lv_room (Nat.le_of_ble_eq_true rfl)) dX0_between_11 ⟨Nat.zero_le _, Nat.zero_le _⟩) ?_
  exact W.iret hx hb hr (fun t ht _ => ⟨rfl, ht⟩) (fun q h => by cases h) dX0_between_14
set_option maxHeartbeats 4000000 in
set_option maxRecDepth 100000 in
theorem cx_pick (l : Launch) (G : va_G) (a : Nat → Nat) (C : Nat → ClassId) (K D : Nat → Int64) (Wt O : Nat → Int32) (Lf : Nat → Nat) (sz : Nat) (hs : sz ≤ 200) (hO : ∀ i, i < sz → O i = nI (Lf i) ∧ Lf i < 200) (h0 : 0 < (ft_fb (fun i => decide (K (Lf i) * (ft_sum (fun a b : Int32 => a + b) 0 (fun i => Wt (Lf i)) sz).toInt64 ≤ (ft_sum (fun a b : Int64 => a + b) 0 (fun i => K (Lf i) * (Wt (Lf i)).toInt64) sz))) sz 0)) : Met l yX0_pick wsX0_pick { frames := 3, cells := 0, slots := 0, locals := 90 } (va_Pc [.ref (a 0)] (rX G a C K D Wt O (nI sz))) (rd_Q (.int (nI (ft_em D Lf ((ft_fb (fun i => decide (K (Lf i) * (ft_sum (fun a b : Int32 => a + b) 0 (fun i => Wt (Lf i)) sz).toInt64 ≤ (ft_sum (fun a b : Int64 => a + b) 0 (fun i => K (Lf i) * (Wt (Lf i)).toInt64) sz))) sz 0) - 0 - 1) (0 + 1) (Lf 0))))) 0 0 (fun _ => False) := by
  refine q_open (cc := cX0_pick) (maxL := 1) (ret := (some .int)) (by decide) rfl (Nat.le_of_ble_eq_true rfl) ?_
  intro p e s m below meth c ls S hr hlk hB hl
  obtain ⟨hx, hb, hml, hown, hts⟩ := id S
  obtain ⟨hP, hK⟩ := hB
  have hin : ∀ w ∈ u_ws RX0 TX0 5, w ∈ wsX0_pick := fun w h => tb_cons w (hinX0 w h)
  have hl : lv_has ls 1 [(0, .ref (a 0))] := hl
  refine lv_aload_n hx hb dX0_pick_0 rfl (lv_at hl 0 rfl) ?_
  refine lv_iconst (v := 0) hx hb dX0_pick_1 (by decide) ?_
  refine q_topi (y := nI 0) rfl ?_
  refine lv_aload_n hx hb dX0_pick_2 rfl (lv_at hl 0 rfl) ?_
  refine rd_call (W.runV (As := []) (rest := [.int (nI 0), .ref (a 0)]) S (cx_fairPlaces l G a C K D Wt O Lf sz hs hO) (cwV 0 hts (gX0_74 tb_cons) rfl rfl rfl (by decide +kernel) ⟨Nat.le_of_ble_eq_true rfl, Nat.le_of_ble_eq_true rfl⟩) (pX_V hP hK) rfl rfl hl.1 rfl (lv_room (Nat.le_of_ble_eq_true rfl)) dX0_pick_3 ⟨Nat.zero_le _, Nat.zero_le _⟩) ?_
  refine rd_call (W.runV (As := [.int (nI 0), .int (nI (ft_fb (fun i => decide (K (Lf i) * (ft_sum (fun a b : Int32 => a + b) 0 (fun i => Wt (Lf i)) sz).toInt64 ≤ (ft_sum (fun a b : Int64 => a + b) 0 (fun i => K (Lf i) * (Wt (Lf i)).toInt64) sz))) sz 0))]) (rest := []) S (cx_earliestOfPlaces l G a C K D Wt O Lf sz hs hO (u := 0) (v := (ft_fb (fun i => decide (K (Lf i) * (ft_sum (fun a b : Int32 => a + b) 0 (fun i => Wt (Lf i)) sz).toInt64 ≤ (ft_sum (fun a b : Int64 => a + b) 0 (fun i => K (Lf i) * (Wt (Lf i)).toInt64) sz))) sz 0)) h0 (by have := (ft_fb_spec (fun i => decide (K (Lf i) * (ft_sum (fun a b : Int32 => a + b) 0 (fun i => Wt (Lf i)) sz).toInt64 ≤ (ft_sum (fun a b : Int64 => a + b) 0 (fun i => K (Lf i) * (Wt (Lf i)).toInt64) sz))) sz 0).2.1; omega)) (cwV 2 hts (gX0_67 tb_cons) rfl rfl rfl (by decide +kernel) ⟨Nat.le_of_ble_eq_true rfl, Nat.le_of_ble_eq_true rfl⟩) (pX_V hP hK) rfl rfl hl.1 rfl (lv_room (Nat.le_of_ble_eq_true rfl)) dX0_pick_6 ⟨Nat.zero_le _, Nat.zero_le _⟩) ?_
  exact W.iret hx hb hr (fun t ht _ => ⟨rfl, ht⟩) (fun q h => by cases h) dX0_pick_9
set_option maxHeartbeats 4000000 in
set_option maxRecDepth 100000 in
theorem cx_ahead (l : Launch) (G : va_G) (a : Nat → Nat) (C : Nat → ClassId) (K D : Nat → Int64) (Wt O : Nat → Int32) (Lf : Nat → Nat) (sz : Nat) (hs : sz ≤ 200) (hO : ∀ i, i < sz → O i = nI (Lf i) ∧ Lf i < 200) {j : Nat} (hj : j < 200) (ht : 0 < Wt j) : Met l yX0_ahead wsX0_ahead { frames := 3, cells := 0, slots := 0, locals := 90 } (va_Pc [.ref (a 0), .int (nI j)] (rX G a C K D Wt O (nI sz))) (rd_Q (.long (K j * (ft_sum (fun a b : Int32 => a + b) 0 (fun i => Wt (Lf i)) sz).toInt64 - (ft_sum (fun a b : Int64 => a + b) 0 (fun i => K (Lf i) * (Wt (Lf i)).toInt64) sz)))) 0 0 (fun _ => False) := by
  refine q_open (cc := cX0_ahead) (maxL := 2) (ret := (some .long)) (by decide) rfl (Nat.le_of_ble_eq_true rfl) ?_
  intro p e s m below meth c ls S hr hlk hB hl
  obtain ⟨hx, hb, hml, hown, hts⟩ := id S
  obtain ⟨hP, hK⟩ := hB
  have hin : ∀ w ∈ u_ws RX0 TX0 5, w ∈ wsX0_ahead := fun w h => tb_cons w (hinX0 w h)
  have hl : lv_has ls 2 [(0, .ref (a 0)), (1, .int (nI j))] := hl
  refine lv_aload_n hx hb dX0_ahead_0 rfl (lv_at hl 0 rfl) ?_
  refine lv_iload_n hx hb dX0_ahead_1 rfl (lv_at hl 1 rfl) ?_
  refine rd_call (W.runV (As := [.int (nI j)]) (rest := []) S (cx_isThere_yes l G a C K D Wt O (nI sz) hj ht) (cwV 1 hts (gX0_38 tb_cons) rfl rfl rfl (by decide +kernel) ⟨Nat.le_of_ble_eq_true rfl, Nat.le_of_ble_eq_true rfl⟩) (pX_V hP hK) rfl rfl hl.1 rfl (lv_room (Nat.le_of_ble_eq_true rfl)) dX0_ahead_2 ⟨Nat.zero_le _, Nat.zero_le _⟩) ?_
  refine lv_if_ne (tgt := 16) hx hb dX0_ahead_5 (by decide) (fun _ => ?_) (fun hc => absurd hc (by decide))
  refine lv_aload_n hx hb dX0_ahead_16 rfl (lv_at hl 0 rfl) ?_
  refine va_get (D := G) (ci := 0) (C := RX0) (T := TX0) (N := 5) hx hb hts hin hown hK hP 0 rfl rfl 0 (by decide) (hts _ (tb_cons _ w_fl_X0_9)) (fun _ h9 => h9) rfl dX0_ahead_17 ?_
  refine lv_iload_n hx hb dX0_ahead_20 rfl (lv_at hl 1 rfl) ?_
  refine q_lald hx hb hK hP 1 0 rfl rfl (j) rfl hj (by decide) dX0_ahead_21 ?_
  refine lv_aload_n hx hb dX0_ahead_22 rfl (lv_at hl 0 rfl) ?_
  refine lv_aload_n hx hb dX0_ahead_23 rfl (lv_at hl 0 rfl) ?_
  refine va_get (D := G) (ci := 0) (C := RX0) (T := TX0) (N := 5) hx hb hts hin hown hK hP 0 rfl rfl 4 (by decide) (hts _ (tb_cons _ w_fl_X0_23)) (fun _ h9 => h9) rfl dX0_ahead_24 ?_
  refine rd_call (W.runV (As := [.int (nI sz)]) (rest := [.long (K j)]) S (cx_weightOfFirst l G a C K D Wt O Lf sz hs hO (Nat.le_refl sz)) (cwV 1 hts (gX0_78 tb_cons) rfl rfl rfl (by decide +kernel) ⟨Nat.le_of_ble_eq_true rfl, Nat.le_of_ble_eq_true rfl⟩) (pX_V hP hK) rfl rfl hl.1 rfl (lv_room (Nat.le_of_ble_eq_true rfl)) dX0_ahead_27 ⟨Nat.zero_le _, Nat.zero_le _⟩) ?_
  refine lv_i2l hx hb dX0_ahead_30 rfl ?_
  refine lv_lmul hx hb dX0_ahead_31 ?_
  refine lv_aload_n hx hb dX0_ahead_32 rfl (lv_at hl 0 rfl) ?_
  refine rd_call (W.runV (As := []) (rest := [.long ((K j) * ((ft_sum (fun a b : Int32 => a + b) 0 (fun i => Wt (Lf i)) sz)).toInt64)]) S (cx_sumOfKeysTimesWeights l G a C K D Wt O Lf sz hs hO) (cwV 0 hts (gX0_82 tb_cons) rfl rfl rfl (by decide +kernel) ⟨Nat.le_of_ble_eq_true rfl, Nat.le_of_ble_eq_true rfl⟩) (pX_V hP hK) rfl rfl hl.1 rfl (lv_room (Nat.le_of_ble_eq_true rfl)) dX0_ahead_33 ⟨Nat.zero_le _, Nat.zero_le _⟩) ?_
  refine lv_lsub hx hb dX0_ahead_36 ?_
  exact W.lret hx hb hr (fun t ht _ => ⟨rfl, ht⟩) (fun q h => by cases h) dX0_ahead_37
set_option maxHeartbeats 4000000 in
set_option maxRecDepth 100000 in
theorem cx_weight (l : Launch) (G : va_G) (a : Nat → Nat) (C : Nat → ClassId) (K D : Nat → Int64) (Wt O : Nat → Int32) (Lf : Nat → Nat) (sz : Nat) (hs : sz ≤ 200) (hO : ∀ i, i < sz → O i = nI (Lf i) ∧ Lf i < 200) (key : Int64) : Met l yX0_weight wsX0_weight { frames := 3, cells := 0, slots := 0, locals := 90 } (va_Pc [.ref (a 0), .long key] (rX G a C K D Wt O (nI sz))) (rd_Q (.int (ft_sum (fun a b : Int32 => a + b) 0 (fun i => Wt (Lf i)) (ft_fb (fun i => ft_sb K key 200 (Lf i)) sz 0)))) 0 0 (fun _ => False) := by
  refine q_open (cc := cX0_weight) (maxL := 3) (ret := (some .int)) (by decide) rfl (Nat.le_of_ble_eq_true rfl) ?_
  intro p e s m below meth c ls S hr hlk hB hl
  obtain ⟨hx, hb, hml, hown, hts⟩ := id S
  obtain ⟨hP, hK⟩ := hB
  have hin : ∀ w ∈ u_ws RX0 TX0 5, w ∈ wsX0_weight := fun w h => tb_cons w (hinX0 w h)
  have hl : lv_has ls 3 [(0, .ref (a 0)), (1, .long key)] := hl
  refine lv_aload_n hx hb dX0_weight_0 rfl (lv_at hl 0 rfl) ?_
  refine lv_aload_n hx hb dX0_weight_1 rfl (lv_at hl 0 rfl) ?_
  refine lv_lload_n hx hb dX0_weight_2 rfl (lv_at hl 1 rfl) ?_
  refine rd_call (W.runV (As := [.long key]) (rest := [.ref (a 0)]) S (cx_placesNotAbove l G a C K D Wt O Lf sz hs hO key) (cwV 1 hts (gX0_63 tb_cons) rfl rfl rfl (by decide +kernel) ⟨Nat.le_of_ble_eq_true rfl, Nat.le_of_ble_eq_true rfl⟩) (pX_V hP hK) rfl rfl hl.1 rfl (lv_room (Nat.le_of_ble_eq_true rfl)) dX0_weight_3 ⟨Nat.zero_le _, Nat.zero_le _⟩) ?_
  refine rd_call (W.runV (As := [.int (nI (ft_fb (fun i => ft_sb K key 200 (Lf i)) sz 0))]) (rest := []) S (cx_weightOfFirst l G a C K D Wt O Lf sz hs hO (q := (ft_fb (fun i => ft_sb K key 200 (Lf i)) sz 0)) (by have := (ft_fb_spec (fun i => ft_sb K key 200 (Lf i)) sz 0).2.1; omega)) (cwV 1 hts (gX0_78 tb_cons) rfl rfl rfl (by decide +kernel) ⟨Nat.le_of_ble_eq_true rfl, Nat.le_of_ble_eq_true rfl⟩) (pX_V hP hK) rfl rfl hl.1 rfl (lv_room (Nat.le_of_ble_eq_true rfl)) dX0_weight_6 ⟨Nat.zero_le _, Nat.zero_le _⟩) ?_
  exact W.iret hx hb hr (fun t ht _ => ⟨rfl, ht⟩) (fun q h => by cases h) dX0_weight_9
set_option maxHeartbeats 4000000 in
set_option maxRecDepth 100000 in
theorem cx_count_0 (l : Launch) (G : va_G) (a : Nat → Nat) (C : Nat → ClassId) (K D : Nat → Int64) (Wt O : Nat → Int32) (Lf : Nat → Nat) (sz : Nat) (hs : sz ≤ 200) (hO : ∀ i, i < sz → O i = nI (Lf i) ∧ Lf i < 200) : Met l yX0_count wsX0_count { frames := 3, cells := 0, slots := 0, locals := 90 } (va_Pc [.ref (a 0), .int 0] (rX G a C K D Wt O (nI sz))) (rd_Q (.int (nI sz))) 0 0 (fun _ => False) := by
  refine q_open (cc := cX0_count) (maxL := 2) (ret := (some .int)) (by decide) rfl (Nat.le_of_ble_eq_true rfl) ?_
  intro p e s m below meth c ls S hr hlk hB hl
  obtain ⟨hx, hb, hml, hown, hts⟩ := id S
  obtain ⟨hP, hK⟩ := hB
  have hin : ∀ w ∈ u_ws RX0 TX0 5, w ∈ wsX0_count := fun w h => tb_cons w (hinX0 w h)
  have hl : lv_has ls 2 [(0, .ref (a 0)), (1, .int 0)] := hl
  refine lv_iload_n hx hb dX0_count_0 rfl (lv_at hl 1 rfl) ?_
  refine lv_tableIn (off := 27) (tgt := 28) hx hb dX0_count_1 (by decide) (by decide) (by decide) (by decide) ?_
  refine lv_aload_n hx hb dX0_count_28 rfl (lv_at hl 0 rfl) ?_
  refine va_get (D := G) (ci := 0) (C := RX0) (T := TX0) (N := 5) hx hb hts hin hown hK hP 0 rfl rfl 4 (by decide) (hts _ (tb_cons _ w_fl_X0_23)) (fun _ h9 => h9) rfl dX0_count_29 ?_
  exact W.iret hx hb hr (fun t ht _ => ⟨rfl, ht⟩) (fun q h => by cases h) dX0_count_32
set_option maxHeartbeats 4000000 in
set_option maxRecDepth 100000 in
theorem cx_count_1 (l : Launch) (G : va_G) (a : Nat → Nat) (C : Nat → ClassId) (K D : Nat → Int64) (Wt O : Nat → Int32) (Lf : Nat → Nat) (sz : Nat) (hs : sz ≤ 200) (hO : ∀ i, i < sz → O i = nI (Lf i) ∧ Lf i < 200) : Met l yX0_count wsX0_count { frames := 3, cells := 0, slots := 0, locals := 90 } (va_Pc [.ref (a 0), .int 1] (rX G a C K D Wt O (nI sz))) (rd_Q (.int (ft_sum (fun a b : Int32 => a + b) 0 (fun i => Wt (Lf i)) sz))) 0 0 (fun _ => False) := by
  refine q_open (cc := cX0_count) (maxL := 2) (ret := (some .int)) (by decide) rfl (Nat.le_of_ble_eq_true rfl) ?_
  intro p e s m below meth c ls S hr hlk hB hl
  obtain ⟨hx, hb, hml, hown, hts⟩ := id S
  obtain ⟨hP, hK⟩ := hB
  have hin : ∀ w ∈ u_ws RX0 TX0 5, w ∈ wsX0_count := fun w h => tb_cons w (hinX0 w h)
  have hl : lv_has ls 2 [(0, .ref (a 0)), (1, .int 1)] := hl
  refine lv_iload_n hx hb dX0_count_0 rfl (lv_at hl 1 rfl) ?_
  refine lv_tableIn (off := 32) (tgt := 33) hx hb dX0_count_1 (by decide) (by decide) (by decide) (by decide) ?_
  refine lv_aload_n hx hb dX0_count_33 rfl (lv_at hl 0 rfl) ?_
  refine lv_aload_n hx hb dX0_count_34 rfl (lv_at hl 0 rfl) ?_
  refine va_get (D := G) (ci := 0) (C := RX0) (T := TX0) (N := 5) hx hb hts hin hown hK hP 0 rfl rfl 4 (by decide) (hts _ (tb_cons _ w_fl_X0_23)) (fun _ h9 => h9) rfl dX0_count_35 ?_
  refine rd_call (W.runV (As := [.int (nI sz)]) (rest := []) S (cx_weightOfFirst l G a C K D Wt O Lf sz hs hO (Nat.le_refl sz)) (cwV 1 hts (gX0_78 tb_cons) rfl rfl rfl (by decide +kernel) ⟨Nat.le_of_ble_eq_true rfl, Nat.le_of_ble_eq_true rfl⟩) (pX_V hP hK) rfl rfl hl.1 rfl (lv_room (Nat.le_of_ble_eq_true rfl)) dX0_count_38 ⟨Nat.zero_le _, Nat.zero_le _⟩) ?_
  exact W.iret hx hb hr (fun t ht _ => ⟨rfl, ht⟩) (fun q h => by cases h) dX0_count_41
set_option maxHeartbeats 4000000 in
set_option maxRecDepth 100000 in
theorem cx_count_2 (l : Launch) (G : va_G) (a : Nat → Nat) (C : Nat → ClassId) (K D : Nat → Int64) (Wt O : Nat → Int32) (Lf : Nat → Nat) (sz : Nat) (hs : sz ≤ 200) (hO : ∀ i, i < sz → O i = nI (Lf i) ∧ Lf i < 200) : Met l yX0_count wsX0_count { frames := 3, cells := 0, slots := 0, locals := 90 } (va_Pc [.ref (a 0), .int 2] (rX G a C K D Wt O (nI sz))) (rd_Q (.int (nI (ft_fb (fun i => decide (K (Lf i) * (ft_sum (fun a b : Int32 => a + b) 0 (fun i => Wt (Lf i)) sz).toInt64 ≤ (ft_sum (fun a b : Int64 => a + b) 0 (fun i => K (Lf i) * (Wt (Lf i)).toInt64) sz))) sz 0)))) 0 0 (fun _ => False) := by
  refine q_open (cc := cX0_count) (maxL := 2) (ret := (some .int)) (by decide) rfl (Nat.le_of_ble_eq_true rfl) ?_
  intro p e s m below meth c ls S hr hlk hB hl
  obtain ⟨hx, hb, hml, hown, hts⟩ := id S
  obtain ⟨hP, hK⟩ := hB
  have hin : ∀ w ∈ u_ws RX0 TX0 5, w ∈ wsX0_count := fun w h => tb_cons w (hinX0 w h)
  have hl : lv_has ls 2 [(0, .ref (a 0)), (1, .int 2)] := hl
  refine lv_iload_n hx hb dX0_count_0 rfl (lv_at hl 1 rfl) ?_
  refine lv_tableIn (off := 41) (tgt := 42) hx hb dX0_count_1 (by decide) (by decide) (by decide) (by decide) ?_
  refine lv_aload_n hx hb dX0_count_42 rfl (lv_at hl 0 rfl) ?_
  refine rd_call (W.runV (As := []) (rest := []) S (cx_fairPlaces l G a C K D Wt O Lf sz hs hO) (cwV 0 hts (gX0_74 tb_cons) rfl rfl rfl (by decide +kernel) ⟨Nat.le_of_ble_eq_true rfl, Nat.le_of_ble_eq_true rfl⟩) (pX_V hP hK) rfl rfl hl.1 rfl (lv_room (Nat.le_of_ble_eq_true rfl)) dX0_count_43 ⟨Nat.zero_le _, Nat.zero_le _⟩) ?_
  exact W.iret hx hb hr (fun t ht _ => ⟨rfl, ht⟩) (fun q h => by cases h) dX0_count_46
set_option maxHeartbeats 4000000 in
set_option maxRecDepth 100000 in
theorem cx_count_x (l : Launch) (G : va_G) (a : Nat → Nat) (C : Nat → ClassId) (K D : Nat → Int64) (Wt O : Nat → Int32) (Lf : Nat → Nat) (sz : Nat) (hs : sz ≤ 200) (hO : ∀ i, i < sz → O i = nI (Lf i) ∧ Lf i < 200) {x : Int32} (h : x.toInt < 0 ∨ 2 < x.toInt) : Met l yX0_count wsX0_count { frames := 3, cells := 0, slots := 0, locals := 90 } (va_Pc [.ref (a 0), .int x] (rX G a C K D Wt O (nI sz))) (rd_Q (.int (-1))) 0 0 (fun _ => False) := by
  refine q_open (cc := cX0_count) (maxL := 2) (ret := (some .int)) (by decide) rfl (Nat.le_of_ble_eq_true rfl) ?_
  intro p e s m below meth c ls S hr hlk hB hl
  obtain ⟨hx, hb, hml, hown, hts⟩ := id S
  obtain ⟨hP, hK⟩ := hB
  have hin : ∀ w ∈ u_ws RX0 TX0 5, w ∈ wsX0_count := fun w h => tb_cons w (hinX0 w h)
  have hl : lv_has ls 2 [(0, .ref (a 0)), (1, .int x)] := hl
  refine lv_iload_n hx hb dX0_count_0 rfl (lv_at hl 1 rfl) ?_
  refine lv_tableOut (tgt := 47) hx hb dX0_count_1 (h) (by decide) ?_
  refine lv_iconst (v := (-1)) hx hb dX0_count_47 (by decide) ?_
  exact W.iret hx hb hr (fun t ht _ => ⟨rfl, ht⟩) (fun q h => by cases h) dX0_count_48
set_option maxHeartbeats 4000000 in
set_option maxRecDepth 100000 in
theorem cx_half (l : Launch) (G : va_G) (a : Nat → Nat) (C : Nat → ClassId) (K D : Nat → Int64) (Wt O : Nat → Int32) (Lf : Nat → Nat) (sz : Nat) (hs : sz ≤ 200) (hO : ∀ i, i < sz → O i = nI (Lf i) ∧ Lf i < 200) (hs0 : 0 < sz) : Met l yX0_half wsX0_half { frames := 1, cells := 0, slots := 0, locals := 30 } (va_Pc [.ref (a 0)] (rX G a C K D Wt O (nI sz))) (rd_Q (.int (nI (Lf (ft_fb (fun j => decide ((2 : Int32) * ft_sum (fun a b : Int32 => a + b) 0 (fun j => Wt (Lf j)) (j + 1) < ft_sum (fun a b : Int32 => a + b) 0 (fun j => Wt (Lf j)) sz)) (sz - 1) 0))))) 0 0 (fun _ => False) := by
  refine q_open (cc := cX0_half) (maxL := 4) (ret := (some .int)) (by decide) rfl (Nat.le_of_ble_eq_true rfl) ?_
  intro p e s m below meth c ls S hr hlk hB hl
  obtain ⟨hx, hb, hml, hown, hts⟩ := id S
  obtain ⟨hP, hK⟩ := hB
  have hin : ∀ w ∈ u_ws RX0 TX0 5, w ∈ wsX0_half := fun w h => tb_cons w (hinX0 w h)
  have hl : lv_has ls 4 [(0, .ref (a 0))] := hl
  refine lv_aload_n hx hb dX0_half_0 rfl (lv_at hl 0 rfl) ?_
  refine va_get (D := G) (ci := 0) (C := RX0) (T := TX0) (N := 5) hx hb hts hin hown hK hP 0 rfl rfl 4 (by decide) (hts _ (tb_cons _ w_fl_X0_23)) (fun _ h9 => h9) rfl dX0_half_1 ?_
  refine lv_if_ne (tgt := 15) hx hb dX0_half_4 (by decide) (fun _ => ?_) (fun hc => absurd hc (nI_ne0 hs0 (by omega)))
  refine lv_aload_n hx hb dX0_half_15 rfl (lv_at hl 0 rfl) ?_
  refine lv_aload_n hx hb dX0_half_16 rfl (lv_at hl 0 rfl) ?_
  refine va_get (D := G) (ci := 0) (C := RX0) (T := TX0) (N := 5) hx hb hts hin hown hK hP 0 rfl rfl 4 (by decide) (hts _ (tb_cons _ w_fl_X0_23)) (fun _ h9 => h9) rfl dX0_half_17 ?_
  refine rd_call (W.runV (As := [.int (nI sz)]) (rest := []) S (cx_weightOfFirst l G a C K D Wt O Lf sz hs hO (Nat.le_refl sz)) (cwV 1 hts (gX0_78 tb_cons) rfl rfl rfl (by decide +kernel) ⟨Nat.le_of_ble_eq_true rfl, Nat.le_of_ble_eq_true rfl⟩) (pX_V hP hK) rfl rfl hl.1 rfl (lv_room (Nat.le_of_ble_eq_true rfl)) dX0_half_20 ⟨Nat.zero_le _, Nat.zero_le _⟩) ?_
  refine lv_istore_n hx hb dX0_half_23 rfl hl (by decide) rfl (fun ls hl => ?_)
  have hl : lv_has ls 4 [(1, .int (ft_sum (fun a b : Int32 => a + b) 0 (fun i => Wt (Lf i)) sz)), (0, .ref (a 0))] := hl
  refine lv_iconst (v := 0) hx hb dX0_half_24 (by decide) ?_
  refine lv_istore_n hx hb dX0_half_25 rfl hl (by decide) rfl (fun ls hl => ?_)
  have hl : lv_has ls 4 [(2, .int 0), (1, .int (ft_sum (fun a b : Int32 => a + b) 0 (fun i => Wt (Lf i)) sz)), (0, .ref (a 0))] := hl
  refine lv_aload_n hx hb dX0_half_26 rfl (lv_at hl 2 rfl) ?_
  refine va_get (D := G) (ci := 0) (C := RX0) (T := TX0) (N := 5) hx hb hts hin hown hK hP 0 rfl rfl 2 (by decide) (hts _ (tb_cons _ w_fl_X0_16)) (fun _ h9 => h9) rfl dX0_half_27 ?_
  refine lv_aload_n hx hb dX0_half_30 rfl (lv_at hl 2 rfl) ?_
  refine va_get (D := G) (ci := 0) (C := RX0) (T := TX0) (N := 5) hx hb hts hin hown hK hP 0 rfl rfl 3 (by decide) (hts _ (tb_cons _ w_fl_X0_20)) (fun _ h9 => h9) rfl dX0_half_31 ?_
  refine lv_iconst (v := 0) hx hb dX0_half_34 (by decide) ?_
  refine q_iald hx hb hK hP 4 3 rfl rfl (0) rfl (by omega) (by decide) dX0_half_35 ?_
  refine q_topi (y := nI (Lf 0)) (hO 0 hs0).1 ?_
  refine q_iald hx hb hK hP 3 2 rfl rfl (Lf 0) rfl (hO 0 hs0).2 (by decide) dX0_half_36 ?_
  refine q_topi (y := (ft_sum (fun a b : Int32 => a + b) 0 (fun i => Wt (Lf i)) (0 + 1))) (by show Wt (Lf 0) = 0 + Wt (Lf 0); rw [Int32.zero_add]) ?_
  refine lv_istore_n hx hb dX0_half_37 rfl hl (by decide) rfl (fun ls hl => ?_)
  have hl : lv_has ls 4 [(3, .int (ft_sum (fun a b : Int32 => a + b) 0 (fun i => Wt (Lf i)) (0 + 1))), (2, .int 0), (1, .int (ft_sum (fun a b : Int32 => a + b) 0 (fun i => Wt (Lf i)) sz)), (0, .ref (a 0))] := hl
  have loop : ∀ (k : Nat) (i : Nat), i + k = sz - 1 → ft_fb (fun j => decide ((2 : Int32) * ft_sum (fun a b : Int32 => a + b) 0 (fun j => Wt (Lf j)) (j + 1) < ft_sum (fun a b : Int32 => a + b) 0 (fun j => Wt (Lf j)) sz)) k i = ft_fb (fun j => decide ((2 : Int32) * ft_sum (fun a b : Int32 => a + b) 0 (fun j => Wt (Lf j)) (j + 1) < ft_sum (fun a b : Int32 => a + b) 0 (fun j => Wt (Lf j)) sz)) (sz - 1) 0 → ∀ ls : Array Slot, lv_has ls 4 [(3, .int (ft_sum (fun a b : Int32 => a + b) 0 (fun i => Wt (Lf i)) (i + 1))), (2, .int (nI i)), (1, .int (ft_sum (fun a b : Int32 => a + b) 0 (fun i => Wt (Lf i)) sz)), (0, .ref (a 0))] → W p l e { frames := 1, cells := 0, slots := 0, locals := 30 } s m ([.ref (a 0)] : List Value).toArray below meth c s.heap [] 0 0 (MQ below (rd_Q (.int (nI (Lf (ft_fb (fun j => decide ((2 : Int32) * ft_sum (fun a b : Int32 => a + b) 0 (fun j => Wt (Lf j)) (j + 1) < ft_sum (fun a b : Int32 => a + b) 0 (fun j => Wt (Lf j)) sz)) (sz - 1) 0))))) ([.ref (a 0)] : List Value).toArray s 0 0 (fun _ => False)) (F0 m 38 ls []) := by
    intro k
    induction k with
    | zero =>
      intro i hi hf ls hl
      refine lv_iload_n hx hb dX0_half_38 rfl (lv_at hl 1 rfl) ?_
      refine lv_aload_n hx hb dX0_half_39 rfl (lv_at hl 3 rfl) ?_
      refine va_get (D := G) (ci := 0) (C := RX0) (T := TX0) (N := 5) hx hb hts hin hown hK hP 0 rfl rfl 4 (by decide) (hts _ (tb_cons _ w_fl_X0_23)) (fun _ h9 => h9) rfl dX0_half_40 ?_
      refine lv_iconst (v := 1) hx hb dX0_half_43 (by decide) ?_
      refine lv_isub hx hb dX0_half_44 ?_
      refine q_topi (y := nI (sz - 1)) (q_pred hs0) ?_
      refine lv_icmp_ge (tgt := 75) hx hb dX0_half_45 (by decide) (fun _ => ?_) (fun hc => absurd (nI_le (by omega) (by omega)) hc)
      have hf : i = ft_fb (fun j => decide ((2 : Int32) * ft_sum (fun a b : Int32 => a + b) 0 (fun j => Wt (Lf j)) (j + 1) < ft_sum (fun a b : Int32 => a + b) 0 (fun j => Wt (Lf j)) sz)) (sz - 1) 0 := hf
      refine lv_aload_n hx hb dX0_half_75 rfl (lv_at hl 3 rfl) ?_
      refine va_get (D := G) (ci := 0) (C := RX0) (T := TX0) (N := 5) hx hb hts hin hown hK hP 0 rfl rfl 3 (by decide) (hts _ (tb_cons _ w_fl_X0_20)) (fun _ h9 => h9) rfl dX0_half_76 ?_
      refine lv_iload_n hx hb dX0_half_79 rfl (lv_at hl 1 rfl) ?_
      refine q_iald hx hb hK hP 4 3 rfl rfl (i) rfl (by omega) (by decide) dX0_half_80 ?_
      refine q_topi (y := nI (Lf i)) (hO i (by omega)).1 ?_
      exact W.iret hx hb hr (fun t ht _ => ⟨by rw [← hf], ht⟩) (fun q h => by cases h) dX0_half_81
    | succ k ih =>
      intro i hi hf ls hl
      refine lv_iload_n hx hb dX0_half_38 rfl (lv_at hl 1 rfl) ?_
      refine lv_aload_n hx hb dX0_half_39 rfl (lv_at hl 3 rfl) ?_
      refine va_get (D := G) (ci := 0) (C := RX0) (T := TX0) (N := 5) hx hb hts hin hown hK hP 0 rfl rfl 4 (by decide) (hts _ (tb_cons _ w_fl_X0_23)) (fun _ h9 => h9) rfl dX0_half_40 ?_
      refine lv_iconst (v := 1) hx hb dX0_half_43 (by decide) ?_
      refine lv_isub hx hb dX0_half_44 ?_
      refine q_topi (y := nI (sz - 1)) (q_pred hs0) ?_
      refine lv_icmp_ge (tgt := 75) hx hb dX0_half_45 (by decide) (fun hc => absurd hc (nI_ge (by omega) (by omega))) (fun _ => ?_)
      refine lv_iconst (v := 2) hx hb dX0_half_48 (by decide) ?_
      refine lv_iload_n hx hb dX0_half_49 rfl (lv_at hl 0 rfl) ?_
      refine lv_imul hx hb dX0_half_50 ?_
      refine lv_iload_n hx hb dX0_half_51 rfl (lv_at hl 2 rfl) ?_
      have hf : (if decide ((2 : Int32) * (ft_sum (fun a b : Int32 => a + b) 0 (fun i => Wt (Lf i)) (i + 1)) < (ft_sum (fun a b : Int32 => a + b) 0 (fun i => Wt (Lf i)) sz)) = true then ft_fb (fun j => decide ((2 : Int32) * ft_sum (fun a b : Int32 => a + b) 0 (fun j => Wt (Lf j)) (j + 1) < ft_sum (fun a b : Int32 => a + b) 0 (fun j => Wt (Lf j)) sz)) k (i + 1) else i) = ft_fb (fun j => decide ((2 : Int32) * ft_sum (fun a b : Int32 => a + b) 0 (fun j => Wt (Lf j)) (j + 1) < ft_sum (fun a b : Int32 => a + b) 0 (fun j => Wt (Lf j)) sz)) (sz - 1) 0 := hf
      refine lv_icmp_ge (tgt := 75) hx hb dX0_half_52 (by decide) (fun hq => ?_) (fun hq => ?_)
      · rw [if_neg (fun z => Int32.not_le.mpr (of_decide_eq_true z) hq)] at hf
        refine lv_aload_n hx hb dX0_half_75 rfl (lv_at hl 3 rfl) ?_
        refine va_get (D := G) (ci := 0) (C := RX0) (T := TX0) (N := 5) hx hb hts hin hown hK hP 0 rfl rfl 3 (by decide) (hts _ (tb_cons _ w_fl_X0_20)) (fun _ h9 => h9) rfl dX0_half_76 ?_
        refine lv_iload_n hx hb dX0_half_79 rfl (lv_at hl 1 rfl) ?_
        refine q_iald hx hb hK hP 4 3 rfl rfl (i) rfl (by omega) (by decide) dX0_half_80 ?_
        refine q_topi (y := nI (Lf i)) (hO i (by omega)).1 ?_
        exact W.iret hx hb hr (fun t ht _ => ⟨by rw [← hf], ht⟩) (fun q h => by cases h) dX0_half_81
      · rw [if_pos (decide_eq_true (Int32.not_le.mp hq))] at hf
        refine lv_iinc (k := 1) (v := nI (i + 1)) hx hb dX0_half_55 hl rfl (nI_succ i).symm (by decide) rfl (fun ls hl => ?_)
        have hl : lv_has ls 4 [(2, .int (nI (i + 1))), (3, .int (ft_sum (fun a b : Int32 => a + b) 0 (fun i => Wt (Lf i)) (i + 1))), (1, .int (ft_sum (fun a b : Int32 => a + b) 0 (fun i => Wt (Lf i)) sz)), (0, .ref (a 0))] := hl
        refine lv_iload_n hx hb dX0_half_58 rfl (lv_at hl 1 rfl) ?_
        refine lv_aload_n hx hb dX0_half_59 rfl (lv_at hl 3 rfl) ?_
        refine va_get (D := G) (ci := 0) (C := RX0) (T := TX0) (N := 5) hx hb hts hin hown hK hP 0 rfl rfl 2 (by decide) (hts _ (tb_cons _ w_fl_X0_16)) (fun _ h9 => h9) rfl dX0_half_60 ?_
        refine lv_aload_n hx hb dX0_half_63 rfl (lv_at hl 3 rfl) ?_
        refine va_get (D := G) (ci := 0) (C := RX0) (T := TX0) (N := 5) hx hb hts hin hown hK hP 0 rfl rfl 3 (by decide) (hts _ (tb_cons _ w_fl_X0_20)) (fun _ h9 => h9) rfl dX0_half_64 ?_
        refine lv_iload_n hx hb dX0_half_67 rfl (lv_at hl 0 rfl) ?_
        refine q_iald hx hb hK hP 4 3 rfl rfl (i + 1) rfl (by omega) (by decide) dX0_half_68 ?_
        refine q_topi (y := nI (Lf (i + 1))) (hO (i + 1) (by omega)).1 ?_
        refine q_iald hx hb hK hP 3 2 rfl rfl (Lf (i + 1)) rfl (hO (i + 1) (by omega)).2 (by decide) dX0_half_69 ?_
        refine lv_iadd hx hb dX0_half_70 ?_
        refine lv_istore_n hx hb dX0_half_71 rfl hl (by decide) rfl (fun ls hl => ?_)
        have hl : lv_has ls 4 [(3, .int ((ft_sum (fun a b : Int32 => a + b) 0 (fun i => Wt (Lf i)) (i + 1)) + (Wt (Lf (i + 1))))), (2, .int (nI (i + 1))), (1, .int (ft_sum (fun a b : Int32 => a + b) 0 (fun i => Wt (Lf i)) sz)), (0, .ref (a 0))] := hl
        refine lv_goto (tgt := 38) hx hb dX0_half_72 (by decide) ?_
        exact ih (i + 1) (by omega) hf ls hl
  exact loop (sz - 1) 0 (by omega) rfl ls (lv_sub hl [0, 1, 2, 3] rfl)
set_option maxHeartbeats 4000000 in
set_option maxRecDepth 100000 in
theorem cx_nearest (l : Launch) (G : va_G) (a : Nat → Nat) (C : Nat → ClassId) (K D : Nat → Int64) (Wt O : Nat → Int32) (Lf : Nat → Nat) (sz : Nat) (hs : sz ≤ 200) (hO : ∀ i, i < sz → O i = nI (Lf i) ∧ Lf i < 200) (hs0 : 2 ≤ sz) : Met l yX0_nearest wsX0_nearest { frames := 1, cells := 0, slots := 0, locals := 30 } (va_Pc [.ref (a 0)] (rX G a C K D Wt O (nI sz))) (rd_Q (.long (ft_gf (fun i acc => ft_min acc (K (Lf (i + 2)) - K (Lf (i + 1)))) (K (Lf 1) - K (Lf 0)) (sz - 2)))) 0 0 (fun _ => False) := by
  refine q_open (cc := cX0_nearest) (maxL := 4) (ret := (some .long)) (by decide) rfl (Nat.le_of_ble_eq_true rfl) ?_
  intro p e s m below meth c ls S hr hlk hB hl
  obtain ⟨hx, hb, hml, hown, hts⟩ := id S
  obtain ⟨hP, hK⟩ := hB
  have hin : ∀ w ∈ u_ws RX0 TX0 5, w ∈ wsX0_nearest := fun w h => tb_cons w (hinX0 w h)
  have hl : lv_has ls 4 [(0, .ref (a 0))] := hl
  refine lv_aload_n hx hb dX0_nearest_0 rfl (lv_at hl 0 rfl) ?_
  refine va_get (D := G) (ci := 0) (C := RX0) (T := TX0) (N := 5) hx hb hts hin hown hK hP 0 rfl rfl 4 (by decide) (hts _ (tb_cons _ w_fl_X0_23)) (fun _ h9 => h9) rfl dX0_nearest_1 ?_
  refine lv_iconst (v := 2) hx hb dX0_nearest_4 (by decide) ?_
  refine lv_icmp_ge (tgt := 16) hx hb dX0_nearest_5 (by decide) (fun _ => ?_) (fun hc => absurd (nI_le (a := 2) hs0 (by omega)) hc)
  refine lv_aload_n hx hb dX0_nearest_16 rfl (lv_at hl 0 rfl) ?_
  refine lv_iconst (v := 1) hx hb dX0_nearest_17 (by decide) ?_
  refine q_topi (y := nI 1) rfl ?_
  refine rd_call (W.runV (As := [.int (nI 1)]) (rest := []) S (cx_keyAt l G a C K D Wt O (nI sz) (i := 1) (by omega) (hO (1) (by omega)).1 (hO (1) (by omega)).2) (cwV 1 hts (gX0_53 tb_cons) rfl rfl rfl (by decide +kernel) ⟨Nat.le_of_ble_eq_true rfl, Nat.le_of_ble_eq_true rfl⟩) (pX_V hP hK) rfl rfl hl.1 rfl (lv_room (Nat.le_of_ble_eq_true rfl)) dX0_nearest_18 ⟨Nat.zero_le _, Nat.zero_le _⟩) ?_
  refine lv_aload_n hx hb dX0_nearest_21 rfl (lv_at hl 0 rfl) ?_
  refine lv_iconst (v := 0) hx hb dX0_nearest_22 (by decide) ?_
  refine q_topi (y := nI 0) rfl ?_
  refine rd_call (W.runV (As := [.int (nI 0)]) (rest := [.long (K (Lf 1))]) S (cx_keyAt l G a C K D Wt O (nI sz) (i := 0) (by omega) (hO (0) (by omega)).1 (hO (0) (by omega)).2) (cwV 1 hts (gX0_53 tb_cons) rfl rfl rfl (by decide +kernel) ⟨Nat.le_of_ble_eq_true rfl, Nat.le_of_ble_eq_true rfl⟩) (pX_V hP hK) rfl rfl hl.1 rfl (lv_room (Nat.le_of_ble_eq_true rfl)) dX0_nearest_23 ⟨Nat.zero_le _, Nat.zero_le _⟩) ?_
  refine lv_lsub hx hb dX0_nearest_26 ?_
  refine q_topl (y := (ft_gf (fun i acc => ft_min acc (K (Lf (i + 2)) - K (Lf (i + 1)))) (K (Lf 1) - K (Lf 0)) 0)) rfl ?_
  refine lv_lstore_n hx hb dX0_nearest_27 rfl hl (by decide) rfl (fun ls hl => ?_)
  have hl : lv_has ls 4 [(1, .long (ft_gf (fun i acc => ft_min acc (K (Lf (i + 2)) - K (Lf (i + 1)))) (K (Lf 1) - K (Lf 0)) 0)), (0, .ref (a 0))] := hl
  refine lv_iconst (v := 2) hx hb dX0_nearest_28 (by decide) ?_
  refine q_topi (y := nI (0 + 2)) rfl ?_
  refine lv_istore_n hx hb dX0_nearest_29 rfl hl (by decide) rfl (fun ls hl => ?_)
  have hl : lv_has ls 4 [(3, .int (nI (0 + 2))), (1, .long (ft_gf (fun i acc => ft_min acc (K (Lf (i + 2)) - K (Lf (i + 1)))) (K (Lf 1) - K (Lf 0)) 0)), (0, .ref (a 0))] := hl
  have loop : ∀ (k : Nat) (t : Nat), t + k = sz - 2 → ∀ ls : Array Slot, lv_has ls 4 [(3, .int (nI (t + 2))), (1, .long (ft_gf (fun i acc => ft_min acc (K (Lf (i + 2)) - K (Lf (i + 1)))) (K (Lf 1) - K (Lf 0)) t)), (0, .ref (a 0))] → W p l e { frames := 1, cells := 0, slots := 0, locals := 30 } s m ([.ref (a 0)] : List Value).toArray below meth c s.heap [] 0 0 (MQ below (rd_Q (.long (ft_gf (fun i acc => ft_min acc (K (Lf (i + 2)) - K (Lf (i + 1)))) (K (Lf 1) - K (Lf 0)) (sz - 2)))) ([.ref (a 0)] : List Value).toArray s 0 0 (fun _ => False)) (F0 m 30 ls []) := by
    intro k
    induction k with
    | zero =>
      intro t he ls hl
      refine lv_iload_n hx hb dX0_nearest_30 rfl (lv_at hl 0 rfl) ?_
      refine lv_aload_n hx hb dX0_nearest_31 rfl (lv_at hl 2 rfl) ?_
      refine va_get (D := G) (ci := 0) (C := RX0) (T := TX0) (N := 5) hx hb hts hin hown hK hP 0 rfl rfl 4 (by decide) (hts _ (tb_cons _ w_fl_X0_23)) (fun _ h9 => h9) rfl dX0_nearest_32 ?_
      refine lv_icmp_ge (tgt := 62) hx hb dX0_nearest_35 (by decide) (fun _ => ?_) (fun hc => absurd (nI_le (by omega) (by omega)) hc)
      refine lv_lload_n hx hb dX0_nearest_62 rfl (lv_at hl 1 rfl) ?_
      have he : t = sz - 2 := he
      exact W.lret hx hb hr (fun t ht _ => ⟨by rw [he], ht⟩) (fun q h => by cases h) dX0_nearest_63
    | succ k ih =>
      intro t ht ls hl
      refine lv_iload_n hx hb dX0_nearest_30 rfl (lv_at hl 0 rfl) ?_
      refine lv_aload_n hx hb dX0_nearest_31 rfl (lv_at hl 2 rfl) ?_
      refine va_get (D := G) (ci := 0) (C := RX0) (T := TX0) (N := 5) hx hb hts hin hown hK hP 0 rfl rfl 4 (by decide) (hts _ (tb_cons _ w_fl_X0_23)) (fun _ h9 => h9) rfl dX0_nearest_32 ?_
      refine lv_icmp_ge (tgt := 62) hx hb dX0_nearest_35 (by decide) (fun hc => absurd hc (nI_ge (by omega) (by omega))) (fun _ => ?_)
      refine lv_lload_n hx hb dX0_nearest_38 rfl (lv_at hl 1 rfl) ?_
      refine lv_aload_n hx hb dX0_nearest_39 rfl (lv_at hl 2 rfl) ?_
      refine lv_iload_n hx hb dX0_nearest_40 rfl (lv_at hl 0 rfl) ?_
      refine rd_call (W.runV (As := [.int (nI (t + 2))]) (rest := [.long (ft_gf (fun i acc => ft_min acc (K (Lf (i + 2)) - K (Lf (i + 1)))) (K (Lf 1) - K (Lf 0)) t)]) S (cx_keyAt l G a C K D Wt O (nI sz) (i := t + 2) (by omega) (hO (t + 2) (by omega)).1 (hO (t + 2) (by omega)).2) (cwV 1 hts (gX0_53 tb_cons) rfl rfl rfl (by decide +kernel) ⟨Nat.le_of_ble_eq_true rfl, Nat.le_of_ble_eq_true rfl⟩) (pX_V hP hK) rfl rfl hl.1 rfl (lv_room (Nat.le_of_ble_eq_true rfl)) dX0_nearest_41 ⟨Nat.zero_le _, Nat.zero_le _⟩) ?_
      refine lv_aload_n hx hb dX0_nearest_44 rfl (lv_at hl 2 rfl) ?_
      refine lv_iload_n hx hb dX0_nearest_45 rfl (lv_at hl 0 rfl) ?_
      refine lv_iconst (v := 1) hx hb dX0_nearest_46 (by decide) ?_
      refine lv_isub hx hb dX0_nearest_47 ?_
      refine q_topi (y := nI (t + 1)) (q_pred (by omega)) ?_
      refine rd_call (W.runV (As := [.int (nI (t + 1))]) (rest := [.long (K (Lf (t + 2))), .long (ft_gf (fun i acc => ft_min acc (K (Lf (i + 2)) - K (Lf (i + 1)))) (K (Lf 1) - K (Lf 0)) t)]) S (cx_keyAt l G a C K D Wt O (nI sz) (i := t + 1) (by omega) (hO (t + 1) (by omega)).1 (hO (t + 1) (by omega)).2) (cwV 1 hts (gX0_53 tb_cons) rfl rfl rfl (by decide +kernel) ⟨Nat.le_of_ble_eq_true rfl, Nat.le_of_ble_eq_true rfl⟩) (pX_V hP hK) rfl rfl hl.1 rfl (lv_room (Nat.le_of_ble_eq_true rfl)) dX0_nearest_48 ⟨Nat.zero_le _, Nat.zero_le _⟩) ?_
      refine lv_lsub hx hb dX0_nearest_51 ?_
      refine va_mmin_long hx hb (hml.trans hl.1.symm) hown (hts _ (tb_cons _ w_ml_X0_86)) (hts _ (tb_cons _ w_st_min)) (hts _ (tb_cons _ w_in_Math)) (hts _ (tb_cons _ w_co_min)) (Nat.le_of_ble_eq_true rfl) (Nat.le_of_ble_eq_true rfl) (Nat.zero_le _) (Nat.zero_le _) dX0_nearest_52 ?_
      refine q_topl (y := (ft_gf (fun i acc => ft_min acc (K (Lf (i + 2)) - K (Lf (i + 1)))) (K (Lf 1) - K (Lf 0)) (t + 1))) rfl ?_
      refine lv_lstore_n hx hb dX0_nearest_55 rfl hl (by decide) rfl (fun ls hl => ?_)
      have hl : lv_has ls 4 [(1, .long (ft_gf (fun i acc => ft_min acc (K (Lf (i + 2)) - K (Lf (i + 1)))) (K (Lf 1) - K (Lf 0)) (t + 1))), (3, .int (nI (t + 2))), (0, .ref (a 0))] := hl
      refine lv_iinc (k := 1) (v := nI (t + 1 + 2)) hx hb dX0_nearest_56 hl rfl (nI_succ (t + 2)).symm (by decide) rfl (fun ls hl => ?_)
      have hl : lv_has ls 4 [(3, .int (nI (t + 1 + 2))), (1, .long (ft_gf (fun i acc => ft_min acc (K (Lf (i + 2)) - K (Lf (i + 1)))) (K (Lf 1) - K (Lf 0)) (t + 1))), (0, .ref (a 0))] := hl
      refine lv_goto (tgt := 30) hx hb dX0_nearest_59 (by decide) ?_
      exact ih (t + 1) (by omega) ls (lv_sub hl [0, 1, 2] rfl)
  exact loop (sz - 2) 0 (by omega) ls hl
