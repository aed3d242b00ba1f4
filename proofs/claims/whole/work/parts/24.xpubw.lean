set_option maxHeartbeats 4000000 in
set_option maxRecDepth 100000 in
theorem cx_drop (l : Launch) (G : va_G) (a : Nat → Nat) (C : Nat → ClassId) {A : Nat → Prop} (hD : ∀ K D Wt O n, va_D A (wX a C K D Wt O n)) (K D : Nat → Int64) (Wt O : Nat → Int32) (Lf : Nat → Nat) (sz : Nat) (hs : sz ≤ 200) (hO : ∀ i, i < sz → O i = nI (Lf i) ∧ Lf i < 200) {j : Nat} (hj : j < 200) (ht : 0 < Wt j) (hq : (ft_fb (fun i => ft_sb K (K j) (nI j) (Lf i)) sz 0) < sz) : Met l yX0_drop wsX0_drop { frames := 3, cells := 0, slots := 0, locals := 90 } (va_Pc [.ref (a 0), .int (nI j)] (rX G a C K D Wt O (nI sz))) (wr_Q G vwCl (some (.int (Wt j))) (wX a C K D (ft_zr Lf 1 (ft_fb (fun i => ft_sb K (K j) (nI j) (Lf i)) sz 0) Wt) (va_cpy O O ((ft_fb (fun i => ft_sb K (K j) (nI j) (Lf i)) sz 0) + 1) (ft_fb (fun i => ft_sb K (K j) (nI j) (Lf i)) sz 0) (sz - ((ft_fb (fun i => ft_sb K (K j) (nI j) (Lf i)) sz 0) + 1))) (nI (sz - 1))) A) 0 0 A := by
  refine q_open (cc := cX0_drop) (maxL := 3) (ret := (some .int)) (by decide) rfl (Nat.le_of_ble_eq_true rfl) ?_
  intro p e s m below meth c ls S hr hlk hB hl
  obtain ⟨hx, hb, hml, hown, hts⟩ := id S
  obtain ⟨hP, hK⟩ := hB
  have hin : ∀ w ∈ u_ws RX0 TX0 5, w ∈ wsX0_drop := fun w h => tb_cons w (hinX0 w h)
  have hS : va_S A s.heap s.heap [] := va_S.rf
  have hl : lv_has ls 3 [(0, .ref (a 0)), (1, .int (nI j))] := hl
  refine lv_aload_n hx hb dX0_drop_0 rfl (lv_at hl 0 rfl) ?_
  refine lv_iload_n hx hb dX0_drop_1 rfl (lv_at hl 1 rfl) ?_
  refine rd_call (W.runV (As := [.int (nI j)]) (rest := []) S (cx_isThere_yes l G a C K D Wt O (nI sz) hj ht) (cwV 1 hts (gX0_38 tb_cons) rfl rfl rfl (by decide +kernel) ⟨Nat.le_of_ble_eq_true rfl, Nat.le_of_ble_eq_true rfl⟩) (pX_V hP hK) rfl rfl hl.1 rfl (lv_room (Nat.le_of_ble_eq_true rfl)) dX0_drop_2 ⟨Nat.zero_le _, Nat.zero_le _⟩) ?_
  refine lv_if_ne (tgt := 16) hx hb dX0_drop_5 (by decide) (fun _ => ?_) (fun hc => absurd hc (by decide))
  refine lv_aload_n hx hb dX0_drop_16 rfl (lv_at hl 0 rfl) ?_
  refine va_get (D := G) (ci := 0) (C := RX0) (T := TX0) (N := 5) hx hb hts hin hown hK hP 0 rfl rfl 2 (by decide) (hts _ (tb_cons _ w_fl_X0_16)) (fun _ h9 => h9) rfl dX0_drop_17 ?_
  refine lv_iload_n hx hb dX0_drop_20 rfl (lv_at hl 1 rfl) ?_
  refine q_iald hx hb hK hP 3 2 rfl rfl (j) rfl hj (by decide) dX0_drop_21 ?_
  refine lv_istore_n hx hb dX0_drop_22 rfl hl (by decide) rfl (fun ls hl => ?_)
  have hl : lv_has ls 3 [(2, .int (Wt j)), (0, .ref (a 0)), (1, .int (nI j))] := hl
  refine lv_aload_n hx hb dX0_drop_23 rfl (lv_at hl 1 rfl) ?_
  refine lv_iload_n hx hb dX0_drop_24 rfl (lv_at hl 2 rfl) ?_
  refine wr_call (W.runV (As := [.int (nI j)]) (rest := []) S (cx_removeItem l G a C hD K D Wt O Lf sz hs hO hj hq) (cwV 1 hts (gX0_41 tb_cons) rfl rfl rfl (by decide +kernel) ⟨Nat.le_of_ble_eq_true rfl, Nat.le_of_ble_eq_true rfl⟩) (pX_V hP hK) rfl rfl hl.1 rfl (lv_room (Nat.le_of_ble_eq_true rfl)) dX0_drop_25 ⟨Nat.zero_le _, Nat.zero_le _⟩) hS (fun _ h => h) (fun H locs hP hS _ _ => ?_)
  have hP : va_P G vwCl (wX a C K D (ft_zr Lf 1 (ft_fb (fun i => ft_sb K (K j) (nI j) (Lf i)) sz 0) Wt) (va_cpy O O ((ft_fb (fun i => ft_sb K (K j) (nI j) (Lf i)) sz 0) + 1) (ft_fb (fun i => ft_sb K (K j) (nI j) (Lf i)) sz 0) (sz - ((ft_fb (fun i => ft_sb K (K j) (nI j) (Lf i)) sz 0) + 1))) (nI (sz - 1))) H := hP
  refine W.eq (g2 := F0 m 28 ls []) rfl ?_
  refine lv_iload_n hx hb dX0_drop_28 rfl (lv_at hl 0 rfl) ?_
  exact W.iret hx hb hr (fun t ht _ => ⟨rfl, by rw [ht]; exact hP, hS.F ht⟩) hS.2.2 dX0_drop_29
set_option maxHeartbeats 4000000 in
set_option maxRecDepth 100000 in
theorem cx_put_new (l : Launch) (G : va_G) (a : Nat → Nat) (C : Nat → ClassId) {A : Nat → Prop} (hD : ∀ K D Wt O n, va_D A (wX a C K D Wt O n)) (K D : Nat → Int64) (Wt O : Nat → Int32) (Lf : Nat → Nat) (sz : Nat) (hs : sz ≤ 200) (hO : ∀ i, i < sz → O i = nI (Lf i) ∧ Lf i < 200) {j : Nat} (hj : j < 200) {key due : Int64} {x : Int32} (hk : ¬ key < (-1099511627776) ∧ ¬ 1099511627776 < key) (h1 : ¬ x < 1) (h2 : x ≤ 1000) (ht : Wt j ≤ 0) (hz : sz < 200) : Met l yX0_put wsX0_put { frames := 3, cells := 0, slots := 0, locals := 90 } (va_Pc [.ref (a 0), .int (nI j), .long key, .long due, .int x] (rX G a C K D Wt O (nI sz))) (wr_Q G vwCl (some (.int (nI (sz + 1)))) (wX a C (vp_updL K j key) (vp_updL D j due) (upd Wt j x) (upd (va_cpy O O (ft_fb (fun i => ft_sb (vp_updL K j key) ((vp_updL K j key) j) (nI j) (Lf i)) sz 0) ((ft_fb (fun i => ft_sb (vp_updL K j key) ((vp_updL K j key) j) (nI j) (Lf i)) sz 0) + 1) (sz - (ft_fb (fun i => ft_sb (vp_updL K j key) ((vp_updL K j key) j) (nI j) (Lf i)) sz 0))) (ft_fb (fun i => ft_sb (vp_updL K j key) ((vp_updL K j key) j) (nI j) (Lf i)) sz 0) (nI j)) (nI (sz + 1))) A) 0 0 A := by
  refine q_open (cc := cX0_put) (maxL := 7) (ret := (some .int)) (by decide) rfl (Nat.le_of_ble_eq_true rfl) ?_
  intro p e s m below meth c ls S hr hlk hB hl
  obtain ⟨hx, hb, hml, hown, hts⟩ := id S
  obtain ⟨hP, hK⟩ := hB
  have hin : ∀ w ∈ u_ws RX0 TX0 5, w ∈ wsX0_put := fun w h => tb_cons w (hinX0 w h)
  have hS : va_S A s.heap s.heap [] := va_S.rf
  have hl : lv_has ls 7 [(0, .ref (a 0)), (1, .int (nI j)), (2, .long key), (4, .long due), (6, .int x)] := hl
  refine lv_iload_n hx hb dX0_put_0 rfl (lv_at hl 1 rfl) ?_
  refine rd_call (W.runS (As := [.int (nI j)]) (rest := []) S (cx_isNumber_in l hj) (cwS 1 hts (gX0_27 tb_cons) rfl rfl rfl (by decide +kernel) ⟨Nat.le_of_ble_eq_true rfl, Nat.le_of_ble_eq_true rfl⟩) ⟨fun _ _ _ _ q => q, fun U _ _ => ⟨rfl, trivial⟩⟩ rfl rfl hl.1 rfl (lv_room (Nat.le_of_ble_eq_true rfl)) dX0_put_1 ⟨Nat.zero_le _, Nat.zero_le _⟩) ?_
  refine lv_if_eq (tgt := 28) hx hb dX0_put_4 (by decide) (fun hc => absurd hc (by decide)) (fun _ => ?_)
  refine lv_lload_n hx hb dX0_put_7 rfl (lv_at hl 2 rfl) ?_
  refine rd_call (W.runS (As := [.long key]) (rest := []) S (cx_mayBePut_in l hk) (cwS 1 hts (gX0_31 tb_cons) rfl rfl rfl (by decide +kernel) ⟨Nat.le_of_ble_eq_true rfl, Nat.le_of_ble_eq_true rfl⟩) ⟨fun _ _ _ _ q => q, fun U _ _ => ⟨rfl, trivial⟩⟩ rfl rfl hl.1 rfl (lv_room (Nat.le_of_ble_eq_true rfl)) dX0_put_8 ⟨Nat.zero_le _, Nat.zero_le _⟩) ?_
  refine lv_if_eq (tgt := 28) hx hb dX0_put_11 (by decide) (fun hc => absurd hc (by decide)) (fun _ => ?_)
  refine lv_iload hx hb dX0_put_14 (lv_at hl 4 rfl) ?_
  refine lv_iconst (v := 1) hx hb dX0_put_16 (by decide) ?_
  refine lv_icmp_lt (tgt := 28) hx hb dX0_put_17 (by decide) (fun hc => absurd hc (h1)) (fun _ => ?_)
  refine lv_iload hx hb dX0_put_20 (lv_at hl 4 rfl) ?_
  refine lv_sipush (v := 1000) hx hb dX0_put_22 (by decide) ?_
  refine lv_icmp_le (tgt := 36) hx hb dX0_put_25 (by decide) (fun _ => ?_) (fun hc => absurd (h2) hc)
  refine lv_aload_n hx hb dX0_put_36 rfl (lv_at hl 0 rfl) ?_
  refine lv_iload_n hx hb dX0_put_37 rfl (lv_at hl 1 rfl) ?_
  refine rd_call (W.runV (As := [.int (nI j)]) (rest := []) S (cx_isThere_no l G a C K D Wt O (nI sz) hj ht) (cwV 1 hts (gX0_38 tb_cons) rfl rfl rfl (by decide +kernel) ⟨Nat.le_of_ble_eq_true rfl, Nat.le_of_ble_eq_true rfl⟩) (pX_V hP hK) rfl rfl hl.1 rfl (lv_room (Nat.le_of_ble_eq_true rfl)) dX0_put_38 ⟨Nat.zero_le _, Nat.zero_le _⟩) ?_
  refine lv_if_eq (tgt := 49) hx hb dX0_put_41 (by decide) (fun _ => ?_) (fun hc => absurd (rfl) hc)
  refine lv_aload_n hx hb dX0_put_49 rfl (lv_at hl 0 rfl) ?_
  refine va_get (D := G) (ci := 0) (C := RX0) (T := TX0) (N := 5) hx hb hts hin hown hK hP 0 rfl rfl 0 (by decide) (hts _ (tb_cons _ w_fl_X0_9)) (fun _ h9 => h9) rfl dX0_put_50 ?_
  refine lv_iload_n hx hb dX0_put_53 rfl (lv_at hl 1 rfl) ?_
  refine lv_lload_n hx hb dX0_put_54 rfl (lv_at hl 2 rfl) ?_
  refine q_last hx hb hK hP (hD _ _ _ _ _) hS 1 0 rfl rfl (j) rfl hj (by decide) dX0_put_55 (fun H locs hP hS => ?_)
  have hP : va_P G vwCl (wX a C (vp_updL K j key) D Wt O (nI sz)) H := hP
  refine lv_aload_n hx hb dX0_put_56 rfl (lv_at hl 0 rfl) ?_
  refine va_get (D := G) (ci := 0) (C := RX0) (T := TX0) (N := 5) hx hb hts hin hown hK hP 0 rfl rfl 1 (by decide) (hts _ (tb_cons _ w_fl_X0_13)) (fun _ h9 => h9) rfl dX0_put_57 ?_
  refine lv_iload_n hx hb dX0_put_60 rfl (lv_at hl 1 rfl) ?_
  refine lv_lload hx hb dX0_put_61 (lv_at hl 3 rfl) ?_
  refine q_last hx hb hK hP (hD _ _ _ _ _) hS 2 1 rfl rfl (j) rfl hj (by decide) dX0_put_63 (fun H locs hP hS => ?_)
  have hP : va_P G vwCl (wX a C (vp_updL K j key) (vp_updL D j due) Wt O (nI sz)) H := hP
  refine lv_aload_n hx hb dX0_put_64 rfl (lv_at hl 0 rfl) ?_
  refine va_get (D := G) (ci := 0) (C := RX0) (T := TX0) (N := 5) hx hb hts hin hown hK hP 0 rfl rfl 2 (by decide) (hts _ (tb_cons _ w_fl_X0_16)) (fun _ h9 => h9) rfl dX0_put_65 ?_
  refine lv_iload_n hx hb dX0_put_68 rfl (lv_at hl 1 rfl) ?_
  refine lv_iload hx hb dX0_put_69 (lv_at hl 4 rfl) ?_
  refine q_iast hx hb hK hP (hD _ _ _ _ _) hS 3 2 rfl rfl (j) rfl hj (by decide) dX0_put_71 (fun H locs hP hS => ?_)
  have hP : va_P G vwCl (wX a C (vp_updL K j key) (vp_updL D j due) (upd Wt j x) O (nI sz)) H := hP
  refine lv_aload_n hx hb dX0_put_72 rfl (lv_at hl 0 rfl) ?_
  refine lv_iload_n hx hb dX0_put_73 rfl (lv_at hl 1 rfl) ?_
  refine wr_call (W.runV (As := [.int (nI j)]) (rest := []) S (cx_insertItem l G a C hD (vp_updL K j key) (vp_updL D j due) (upd Wt j x) O Lf sz hs hO hj hz) (cwV 1 hts (gX0_45 tb_cons) rfl rfl rfl (by decide +kernel) ⟨Nat.le_of_ble_eq_true rfl, Nat.le_of_ble_eq_true rfl⟩) (pX_V hP hK) rfl rfl hl.1 rfl (lv_room (Nat.le_of_ble_eq_true rfl)) dX0_put_74 ⟨Nat.zero_le _, Nat.zero_le _⟩) hS (fun _ h => h) (fun H locs hP hS _ _ => ?_)
  have hP : va_P G vwCl (wX a C (vp_updL K j key) (vp_updL D j due) (upd Wt j x) (upd (va_cpy O O (ft_fb (fun i => ft_sb (vp_updL K j key) ((vp_updL K j key) j) (nI j) (Lf i)) sz 0) ((ft_fb (fun i => ft_sb (vp_updL K j key) ((vp_updL K j key) j) (nI j) (Lf i)) sz 0) + 1) (sz - (ft_fb (fun i => ft_sb (vp_updL K j key) ((vp_updL K j key) j) (nI j) (Lf i)) sz 0))) (ft_fb (fun i => ft_sb (vp_updL K j key) ((vp_updL K j key) j) (nI j) (Lf i)) sz 0) (nI j)) (nI (sz + 1))) H := hP
  refine W.eq (g2 := F0 m 77 ls []) rfl ?_
  refine lv_aload_n hx hb dX0_put_77 rfl (lv_at hl 0 rfl) ?_
  refine va_get (D := G) (ci := 0) (C := RX0) (T := TX0) (N := 5) hx hb hts hin hown hK hP 0 rfl rfl 4 (by decide) (hts _ (tb_cons _ w_fl_X0_23)) (fun _ h9 => h9) rfl dX0_put_78 ?_
  exact W.iret hx hb hr (fun t ht _ => ⟨rfl, by rw [ht]; exact hP, hS.F ht⟩) hS.2.2 dX0_put_81
set_option maxHeartbeats 4000000 in
set_option maxRecDepth 100000 in
theorem cx_put_old (l : Launch) (G : va_G) (a : Nat → Nat) (C : Nat → ClassId) {A : Nat → Prop} (hD : ∀ K D Wt O n, va_D A (wX a C K D Wt O n)) (K D : Nat → Int64) (Wt O : Nat → Int32) (Lf : Nat → Nat) (sz : Nat) (hs : sz ≤ 200) (hO : ∀ i, i < sz → O i = nI (Lf i) ∧ Lf i < 200) {j : Nat} (hj : j < 200) {key due : Int64} {x : Int32} (hk : ¬ key < (-1099511627776) ∧ ¬ 1099511627776 < key) (h1 : ¬ x < 1) (h2 : x ≤ 1000) (ht : 0 < Wt j) (hq : (ft_fb (fun i => ft_sb K (K j) (nI j) (Lf i)) sz 0) < sz) : Met l yX0_put wsX0_put { frames := 3, cells := 0, slots := 0, locals := 90 } (va_Pc [.ref (a 0), .int (nI j), .long key, .long due, .int x] (rX G a C K D Wt O (nI sz))) (wr_Q G vwCl (some (.int (nI (sz - 1 + 1)))) (wX a C (vp_updL K j key) (vp_updL D j due) (upd (ft_zr Lf 1 (ft_fb (fun i => ft_sb K (K j) (nI j) (Lf i)) sz 0) Wt) j x) (upd (va_cpy (va_cpy O O ((ft_fb (fun i => ft_sb K (K j) (nI j) (Lf i)) sz 0) + 1) (ft_fb (fun i => ft_sb K (K j) (nI j) (Lf i)) sz 0) (sz - ((ft_fb (fun i => ft_sb K (K j) (nI j) (Lf i)) sz 0) + 1))) (va_cpy O O ((ft_fb (fun i => ft_sb K (K j) (nI j) (Lf i)) sz 0) + 1) (ft_fb (fun i => ft_sb K (K j) (nI j) (Lf i)) sz 0) (sz - ((ft_fb (fun i => ft_sb K (K j) (nI j) (Lf i)) sz 0) + 1))) (ft_fb (fun i => ft_sb (vp_updL K j key) ((vp_updL K j key) j) (nI j) ((ft_rm Lf (ft_fb (fun i => ft_sb K (K j) (nI j) (Lf i)) sz 0) ((ft_fb (fun i => ft_sb K (K j) (nI j) (Lf i)) sz 0) + 1)) i)) (sz - 1) 0) ((ft_fb (fun i => ft_sb (vp_updL K j key) ((vp_updL K j key) j) (nI j) ((ft_rm Lf (ft_fb (fun i => ft_sb K (K j) (nI j) (Lf i)) sz 0) ((ft_fb (fun i => ft_sb K (K j) (nI j) (Lf i)) sz 0) + 1)) i)) (sz - 1) 0) + 1) ((sz - 1) - (ft_fb (fun i => ft_sb (vp_updL K j key) ((vp_updL K j key) j) (nI j) ((ft_rm Lf (ft_fb (fun i => ft_sb K (K j) (nI j) (Lf i)) sz 0) ((ft_fb (fun i => ft_sb K (K j) (nI j) (Lf i)) sz 0) + 1)) i)) (sz - 1) 0))) (ft_fb (fun i => ft_sb (vp_updL K j key) ((vp_updL K j key) j) (nI j) ((ft_rm Lf (ft_fb (fun i => ft_sb K (K j) (nI j) (Lf i)) sz 0) ((ft_fb (fun i => ft_sb K (K j) (nI j) (Lf i)) sz 0) + 1)) i)) (sz - 1) 0) (nI j)) (nI ((sz - 1) + 1))) A) 0 0 A := by
  refine q_open (cc := cX0_put) (maxL := 7) (ret := (some .int)) (by decide) rfl (Nat.le_of_ble_eq_true rfl) ?_
  intro p e s m below meth c ls S hr hlk hB hl
  obtain ⟨hx, hb, hml, hown, hts⟩ := id S
  obtain ⟨hP, hK⟩ := hB
  have hin : ∀ w ∈ u_ws RX0 TX0 5, w ∈ wsX0_put := fun w h => tb_cons w (hinX0 w h)
  have hS : va_S A s.heap s.heap [] := va_S.rf
  have hl : lv_has ls 7 [(0, .ref (a 0)), (1, .int (nI j)), (2, .long key), (4, .long due), (6, .int x)] := hl
  refine lv_iload_n hx hb dX0_put_0 rfl (lv_at hl 1 rfl) ?_
  refine rd_call (W.runS (As := [.int (nI j)]) (rest := []) S (cx_isNumber_in l hj) (cwS 1 hts (gX0_27 tb_cons) rfl rfl rfl (by decide +kernel) ⟨Nat.le_of_ble_eq_true rfl, Nat.le_of_ble_eq_true rfl⟩) ⟨fun _ _ _ _ q => q, fun U _ _ => ⟨rfl, trivial⟩⟩ rfl rfl hl.1 rfl (lv_room (Nat.le_of_ble_eq_true rfl)) dX0_put_1 ⟨Nat.zero_le _, Nat.zero_le _⟩) ?_
  refine lv_if_eq (tgt := 28) hx hb dX0_put_4 (by decide) (fun hc => absurd hc (by decide)) (fun _ => ?_)
  refine lv_lload_n hx hb dX0_put_7 rfl (lv_at hl 2 rfl) ?_
  refine rd_call (W.runS (As := [.long key]) (rest := []) S (cx_mayBePut_in l hk) (cwS 1 hts (gX0_31 tb_cons) rfl rfl rfl (by decide +kernel) ⟨Nat.le_of_ble_eq_true rfl, Nat.le_of_ble_eq_true rfl⟩) ⟨fun _ _ _ _ q => q, fun U _ _ => ⟨rfl, trivial⟩⟩ rfl rfl hl.1 rfl (lv_room (Nat.le_of_ble_eq_true rfl)) dX0_put_8 ⟨Nat.zero_le _, Nat.zero_le _⟩) ?_
  refine lv_if_eq (tgt := 28) hx hb dX0_put_11 (by decide) (fun hc => absurd hc (by decide)) (fun _ => ?_)
  refine lv_iload hx hb dX0_put_14 (lv_at hl 4 rfl) ?_
  refine lv_iconst (v := 1) hx hb dX0_put_16 (by decide) ?_
  refine lv_icmp_lt (tgt := 28) hx hb dX0_put_17 (by decide) (fun hc => absurd hc (h1)) (fun _ => ?_)
  refine lv_iload hx hb dX0_put_20 (lv_at hl 4 rfl) ?_
  refine lv_sipush (v := 1000) hx hb dX0_put_22 (by decide) ?_
  refine lv_icmp_le (tgt := 36) hx hb dX0_put_25 (by decide) (fun _ => ?_) (fun hc => absurd (h2) hc)
  refine lv_aload_n hx hb dX0_put_36 rfl (lv_at hl 0 rfl) ?_
  refine lv_iload_n hx hb dX0_put_37 rfl (lv_at hl 1 rfl) ?_
  refine rd_call (W.runV (As := [.int (nI j)]) (rest := []) S (cx_isThere_yes l G a C K D Wt O (nI sz) hj ht) (cwV 1 hts (gX0_38 tb_cons) rfl rfl rfl (by decide +kernel) ⟨Nat.le_of_ble_eq_true rfl, Nat.le_of_ble_eq_true rfl⟩) (pX_V hP hK) rfl rfl hl.1 rfl (lv_room (Nat.le_of_ble_eq_true rfl)) dX0_put_38 ⟨Nat.zero_le _, Nat.zero_le _⟩) ?_
  refine lv_if_eq (tgt := 49) hx hb dX0_put_41 (by decide) (fun hc => absurd hc (by decide)) (fun _ => ?_)
  refine lv_aload_n hx hb dX0_put_44 rfl (lv_at hl 0 rfl) ?_
  refine lv_iload_n hx hb dX0_put_45 rfl (lv_at hl 1 rfl) ?_
  refine wr_call (W.runV (As := [.int (nI j)]) (rest := []) S (cx_removeItem l G a C hD K D Wt O Lf sz hs hO hj hq) (cwV 1 hts (gX0_41 tb_cons) rfl rfl rfl (by decide +kernel) ⟨Nat.le_of_ble_eq_true rfl, Nat.le_of_ble_eq_true rfl⟩) (pX_V hP hK) rfl rfl hl.1 rfl (lv_room (Nat.le_of_ble_eq_true rfl)) dX0_put_46 ⟨Nat.zero_le _, Nat.zero_le _⟩) hS (fun _ h => h) (fun H locs hP hS _ _ => ?_)
  have hP : va_P G vwCl (wX a C K D (ft_zr Lf 1 (ft_fb (fun i => ft_sb K (K j) (nI j) (Lf i)) sz 0) Wt) (va_cpy O O ((ft_fb (fun i => ft_sb K (K j) (nI j) (Lf i)) sz 0) + 1) (ft_fb (fun i => ft_sb K (K j) (nI j) (Lf i)) sz 0) (sz - ((ft_fb (fun i => ft_sb K (K j) (nI j) (Lf i)) sz 0) + 1))) (nI (sz - 1))) H := hP
  refine W.eq (g2 := F0 m 49 ls []) rfl ?_
  have hO1 : ∀ i, i < sz - 1 → (va_cpy O O ((ft_fb (fun i => ft_sb K (K j) (nI j) (Lf i)) sz 0) + 1) (ft_fb (fun i => ft_sb K (K j) (nI j) (Lf i)) sz 0) (sz - ((ft_fb (fun i => ft_sb K (K j) (nI j) (Lf i)) sz 0) + 1))) i = nI ((ft_rm Lf (ft_fb (fun i => ft_sb K (K j) (nI j) (Lf i)) sz 0) ((ft_fb (fun i => ft_sb K (K j) (nI j) (Lf i)) sz 0) + 1)) i) ∧ (ft_rm Lf (ft_fb (fun i => ft_sb K (K j) (nI j) (Lf i)) sz 0) ((ft_fb (fun i => ft_sb K (K j) (nI j) (Lf i)) sz 0) + 1)) i < 200 := by
    have q := hO_rm hO (a := (ft_fb (fun i => ft_sb K (K j) (nI j) (Lf i)) sz 0)) (b := (ft_fb (fun i => ft_sb K (K j) (nI j) (Lf i)) sz 0) + 1) (by omega) (by omega)
    rw [Nat.add_sub_cancel_left] at q
    intro i hi
    have z := q i hi
    exact z
  refine lv_aload_n hx hb dX0_put_49 rfl (lv_at hl 0 rfl) ?_
  refine va_get (D := G) (ci := 0) (C := RX0) (T := TX0) (N := 5) hx hb hts hin hown hK hP 0 rfl rfl 0 (by decide) (hts _ (tb_cons _ w_fl_X0_9)) (fun _ h9 => h9) rfl dX0_put_50 ?_
  refine lv_iload_n hx hb dX0_put_53 rfl (lv_at hl 1 rfl) ?_
  refine lv_lload_n hx hb dX0_put_54 rfl (lv_at hl 2 rfl) ?_
  refine q_last hx hb hK hP (hD _ _ _ _ _) hS 1 0 rfl rfl (j) rfl hj (by decide) dX0_put_55 (fun H locs hP hS => ?_)
  have hP : va_P G vwCl (wX a C (vp_updL K j key) D (ft_zr Lf 1 (ft_fb (fun i => ft_sb K (K j) (nI j) (Lf i)) sz 0) Wt) (va_cpy O O ((ft_fb (fun i => ft_sb K (K j) (nI j) (Lf i)) sz 0) + 1) (ft_fb (fun i => ft_sb K (K j) (nI j) (Lf i)) sz 0) (sz - ((ft_fb (fun i => ft_sb K (K j) (nI j) (Lf i)) sz 0) + 1))) (nI (sz - 1))) H := hP
  refine lv_aload_n hx hb dX0_put_56 rfl (lv_at hl 0 rfl) ?_
  refine va_get (D := G) (ci := 0) (C := RX0) (T := TX0) (N := 5) hx hb hts hin hown hK hP 0 rfl rfl 1 (by decide) (hts _ (tb_cons _ w_fl_X0_13)) (fun _ h9 => h9) rfl dX0_put_57 ?_
  refine lv_iload_n hx hb dX0_put_60 rfl (lv_at hl 1 rfl) ?_
  refine lv_lload hx hb dX0_put_61 (lv_at hl 3 rfl) ?_
  refine q_last hx hb hK hP (hD _ _ _ _ _) hS 2 1 rfl rfl (j) rfl hj (by decide) dX0_put_63 (fun H locs hP hS => ?_)
  have hP : va_P G vwCl (wX a C (vp_updL K j key) (vp_updL D j due) (ft_zr Lf 1 (ft_fb (fun i => ft_sb K (K j) (nI j) (Lf i)) sz 0) Wt) (va_cpy O O ((ft_fb (fun i => ft_sb K (K j) (nI j) (Lf i)) sz 0) + 1) (ft_fb (fun i => ft_sb K (K j) (nI j) (Lf i)) sz 0) (sz - ((ft_fb (fun i => ft_sb K (K j) (nI j) (Lf i)) sz 0) + 1))) (nI (sz - 1))) H := hP
  refine lv_aload_n hx hb dX0_put_64 rfl (lv_at hl 0 rfl) ?_
  refine va_get (D := G) (ci := 0) (C := RX0) (T := TX0) (N := 5) hx hb hts hin hown hK hP 0 rfl rfl 2 (by decide) (hts _ (tb_cons _ w_fl_X0_16)) (fun _ h9 => h9) rfl dX0_put_65 ?_
  refine lv_iload_n hx hb dX0_put_68 rfl (lv_at hl 1 rfl) ?_
  refine lv_iload hx hb dX0_put_69 (lv_at hl 4 rfl) ?_
  refine q_iast hx hb hK hP (hD _ _ _ _ _) hS 3 2 rfl rfl (j) rfl hj (by decide) dX0_put_71 (fun H locs hP hS => ?_)
  have hP : va_P G vwCl (wX a C (vp_updL K j key) (vp_updL D j due) (upd (ft_zr Lf 1 (ft_fb (fun i => ft_sb K (K j) (nI j) (Lf i)) sz 0) Wt) j x) (va_cpy O O ((ft_fb (fun i => ft_sb K (K j) (nI j) (Lf i)) sz 0) + 1) (ft_fb (fun i => ft_sb K (K j) (nI j) (Lf i)) sz 0) (sz - ((ft_fb (fun i => ft_sb K (K j) (nI j) (Lf i)) sz 0) + 1))) (nI (sz - 1))) H := hP
  refine lv_aload_n hx hb dX0_put_72 rfl (lv_at hl 0 rfl) ?_
  refine lv_iload_n hx hb dX0_put_73 rfl (lv_at hl 1 rfl) ?_
  refine wr_call (W.runV (As := [.int (nI j)]) (rest := []) S (cx_insertItem l G a C hD (vp_updL K j key) (vp_updL D j due) (upd (ft_zr Lf 1 (ft_fb (fun i => ft_sb K (K j) (nI j) (Lf i)) sz 0) Wt) j x) (va_cpy O O ((ft_fb (fun i => ft_sb K (K j) (nI j) (Lf i)) sz 0) + 1) (ft_fb (fun i => ft_sb K (K j) (nI j) (Lf i)) sz 0) (sz - ((ft_fb (fun i => ft_sb K (K j) (nI j) (Lf i)) sz 0) + 1))) (ft_rm Lf (ft_fb (fun i => ft_sb K (K j) (nI j) (Lf i)) sz 0) ((ft_fb (fun i => ft_sb K (K j) (nI j) (Lf i)) sz 0) + 1)) (sz - 1) (by omega) hO1 hj (by omega)) (cwV 1 hts (gX0_45 tb_cons) rfl rfl rfl (by decide +kernel) ⟨Nat.le_of_ble_eq_true rfl, Nat.le_of_ble_eq_true rfl⟩) (pX_V hP hK) rfl rfl hl.1 rfl (lv_room (Nat.le_of_ble_eq_true rfl)) dX0_put_74 ⟨Nat.zero_le _, Nat.zero_le _⟩) hS (fun _ h => h) (fun H locs hP hS _ _ => ?_)
  have hP : va_P G vwCl (wX a C (vp_updL K j key) (vp_updL D j due) (upd (ft_zr Lf 1 (ft_fb (fun i => ft_sb K (K j) (nI j) (Lf i)) sz 0) Wt) j x) (upd (va_cpy (va_cpy O O ((ft_fb (fun i => ft_sb K (K j) (nI j) (Lf i)) sz 0) + 1) (ft_fb (fun i => ft_sb K (K j) (nI j) (Lf i)) sz 0) (sz - ((ft_fb (fun i => ft_sb K (K j) (nI j) (Lf i)) sz 0) + 1))) (va_cpy O O ((ft_fb (fun i => ft_sb K (K j) (nI j) (Lf i)) sz 0) + 1) (ft_fb (fun i => ft_sb K (K j) (nI j) (Lf i)) sz 0) (sz - ((ft_fb (fun i => ft_sb K (K j) (nI j) (Lf i)) sz 0) + 1))) (ft_fb (fun i => ft_sb (vp_updL K j key) ((vp_updL K j key) j) (nI j) ((ft_rm Lf (ft_fb (fun i => ft_sb K (K j) (nI j) (Lf i)) sz 0) ((ft_fb (fun i => ft_sb K (K j) (nI j) (Lf i)) sz 0) + 1)) i)) (sz - 1) 0) ((ft_fb (fun i => ft_sb (vp_updL K j key) ((vp_updL K j key) j) (nI j) ((ft_rm Lf (ft_fb (fun i => ft_sb K (K j) (nI j) (Lf i)) sz 0) ((ft_fb (fun i => ft_sb K (K j) (nI j) (Lf i)) sz 0) + 1)) i)) (sz - 1) 0) + 1) ((sz - 1) - (ft_fb (fun i => ft_sb (vp_updL K j key) ((vp_updL K j key) j) (nI j) ((ft_rm Lf (ft_fb (fun i => ft_sb K (K j) (nI j) (Lf i)) sz 0) ((ft_fb (fun i => ft_sb K (K j) (nI j) (Lf i)) sz 0) + 1)) i)) (sz - 1) 0))) (ft_fb (fun i => ft_sb (vp_updL K j key) ((vp_updL K j key) j) (nI j) ((ft_rm Lf (ft_fb (fun i => ft_sb K (K j) (nI j) (Lf i)) sz 0) ((ft_fb (fun i => ft_sb K (K j) (nI j) (Lf i)) sz 0) + 1)) i)) (sz - 1) 0) (nI j)) (nI ((sz - 1) + 1))) H := hP
  refine W.eq (g2 := F0 m 77 ls []) rfl ?_
  refine lv_aload_n hx hb dX0_put_77 rfl (lv_at hl 0 rfl) ?_
  refine va_get (D := G) (ci := 0) (C := RX0) (T := TX0) (N := 5) hx hb hts hin hown hK hP 0 rfl rfl 4 (by decide) (hts _ (tb_cons _ w_fl_X0_23)) (fun _ h9 => h9) rfl dX0_put_78 ?_
  exact W.iret hx hb hr (fun t ht _ => ⟨rfl, by rw [ht]; exact hP, hS.F ht⟩) hS.2.2 dX0_put_81
set_option maxHeartbeats 4000000 in
set_option maxRecDepth 100000 in
theorem cx_slide (l : Launch) (G : va_G) (a : Nat → Nat) (C : Nat → ClassId) {A : Nat → Prop} (hD : ∀ K D Wt O n, va_D A (wX a C K D Wt O n)) (K D : Nat → Int64) (Wt O : Nat → Int32) (Lf : Nat → Nat) (sz : Nat) (hs : sz ≤ 200) (hO : ∀ i, i < sz → O i = nI (Lf i) ∧ Lf i < 200) (hs0 : 0 < sz) {y : Int64} (h1 : ¬ y < (-2199023255552 : Int64) - K (Lf 0)) (h2 : ¬ (2199023255552 : Int64) - K (Lf (sz - 1)) < y) : Met l yX0_slide wsX0_slide { frames := 1, cells := 0, slots := 0, locals := 30 } (va_Pc [.ref (a 0), .long y] (rX G a C K D Wt O (nI sz))) (wr_Q G vwCl (some (.long (ft_sl Lf y sz 0 K (Lf 0)))) (wX a C (ft_sl Lf y sz 0 K) D Wt O (nI sz)) A) 0 0 A := by
  refine q_open (cc := cX0_slide) (maxL := 8) (ret := (some .long)) (by decide) rfl (Nat.le_of_ble_eq_true rfl) ?_
  intro p e s m below meth c ls S hr hlk hB hl
  obtain ⟨hx, hb, hml, hown, hts⟩ := id S
  obtain ⟨hP, hK⟩ := hB
  have hin : ∀ w ∈ u_ws RX0 TX0 5, w ∈ wsX0_slide := fun w h => tb_cons w (hinX0 w h)
  have hS : va_S A s.heap s.heap [] := va_S.rf
  have hl : lv_has ls 8 [(0, .ref (a 0)), (1, .long y)] := hl
  refine lv_aload_n hx hb dX0_slide_0 rfl (lv_at hl 0 rfl) ?_
  refine va_get (D := G) (ci := 0) (C := RX0) (T := TX0) (N := 5) hx hb hts hin hown hK hP 0 rfl rfl 4 (by decide) (hts _ (tb_cons _ w_fl_X0_23)) (fun _ h9 => h9) rfl dX0_slide_1 ?_
  refine lv_if_ne (tgt := 15) hx hb dX0_slide_4 (by decide) (fun _ => ?_) (fun hc => absurd hc (nI_ne0 hs0 (by omega)))
  refine lv_ldc2 (v := (-2199023255552)) hx hb hown (hts _ (tb_cons _ w_k_X0_51)) dX0_slide_15 ?_
  refine lv_aload_n hx hb dX0_slide_18 rfl (lv_at hl 0 rfl) ?_
  refine lv_iconst (v := 0) hx hb dX0_slide_19 (by decide) ?_
  refine q_topi (y := nI 0) rfl ?_
  refine rd_call (W.runV (As := [.int (nI 0)]) (rest := [.long (-2199023255552)]) S (cx_keyAt l G a C K D Wt O (nI sz) (i := 0) (by omega) (hO (0) (by omega)).1 (hO (0) (by omega)).2) (cwV 1 hts (gX0_53 tb_cons) rfl rfl rfl (by decide +kernel) ⟨Nat.le_of_ble_eq_true rfl, Nat.le_of_ble_eq_true rfl⟩) (pX_V hP hK) rfl rfl hl.1 rfl (lv_room (Nat.le_of_ble_eq_true rfl)) dX0_slide_20 ⟨Nat.zero_le _, Nat.zero_le _⟩) ?_
  refine lv_lsub hx hb dX0_slide_23 ?_
  refine lv_lstore_n hx hb dX0_slide_24 rfl hl (by decide) rfl (fun ls hl => ?_)
  have hl : lv_has ls 8 [(3, .long ((-2199023255552) - (K (Lf 0)))), (0, .ref (a 0)), (1, .long y)] := hl
  refine lv_ldc2 (v := 2199023255552) hx hb hown (hts _ (tb_cons _ w_k_X0_57)) dX0_slide_25 ?_
  refine lv_aload_n hx hb dX0_slide_28 rfl (lv_at hl 1 rfl) ?_
  refine lv_aload_n hx hb dX0_slide_29 rfl (lv_at hl 1 rfl) ?_
  refine va_get (D := G) (ci := 0) (C := RX0) (T := TX0) (N := 5) hx hb hts hin hown hK hP 0 rfl rfl 4 (by decide) (hts _ (tb_cons _ w_fl_X0_23)) (fun _ h9 => h9) rfl dX0_slide_30 ?_
  refine lv_iconst (v := 1) hx hb dX0_slide_33 (by decide) ?_
  refine lv_isub hx hb dX0_slide_34 ?_
  refine q_topi (y := nI (sz - 1)) (q_pred hs0) ?_
  refine rd_call (W.runV (As := [.int (nI (sz - 1))]) (rest := [.long 2199023255552]) S (cx_keyAt l G a C K D Wt O (nI sz) (i := sz - 1) (by omega) (hO (sz - 1) (by omega)).1 (hO (sz - 1) (by omega)).2) (cwV 1 hts (gX0_53 tb_cons) rfl rfl rfl (by decide +kernel) ⟨Nat.le_of_ble_eq_true rfl, Nat.le_of_ble_eq_true rfl⟩) (pX_V hP hK) rfl rfl hl.1 rfl (lv_room (Nat.le_of_ble_eq_true rfl)) dX0_slide_35 ⟨Nat.zero_le _, Nat.zero_le _⟩) ?_
  refine lv_lsub hx hb dX0_slide_38 ?_
  refine lv_lstore hx hb dX0_slide_39 hl (by decide) rfl (fun ls hl => ?_)
  have hl : lv_has ls 8 [(5, .long (2199023255552 - (K (Lf (sz - 1))))), (3, .long ((-2199023255552) - (K (Lf 0)))), (0, .ref (a 0)), (1, .long y)] := hl
  refine lv_lload_n hx hb dX0_slide_41 rfl (lv_at hl 3 rfl) ?_
  refine lv_lload_n hx hb dX0_slide_42 rfl (lv_at hl 1 rfl) ?_
  refine W.lcmp hx hb dX0_slide_43 ?_
  refine lv_if_lt (tgt := 54) hx hb dX0_slide_44 (by decide) (fun hc => absurd hc (fun q => h1 ((lg_cmp_lt _ _).mp q))) (fun _ => ?_)
  refine lv_lload_n hx hb dX0_slide_47 rfl (lv_at hl 3 rfl) ?_
  refine lv_lload hx hb dX0_slide_48 (lv_at hl 0 rfl) ?_
  refine W.lcmp hx hb dX0_slide_50 ?_
  refine lv_if_le (tgt := 62) hx hb dX0_slide_51 (by decide) (fun _ => ?_) (fun hc => absurd ((lg_cmp_le _ _).mpr (Int64.not_lt.mp h2)) hc)
  refine lv_iconst (v := 0) hx hb dX0_slide_62 (by decide) ?_
  refine lv_istore hx hb dX0_slide_63 hl (by decide) rfl (fun ls hl => ?_)
  have hl : lv_has ls 8 [(7, .int 0), (5, .long (2199023255552 - (K (Lf (sz - 1))))), (3, .long ((-2199023255552) - (K (Lf 0)))), (0, .ref (a 0)), (1, .long y)] := hl
  have loop : ∀ (k : Nat) (i : Nat) (Kz : Nat → Int64), i + k = sz → ft_sl Lf y k i Kz = ft_sl Lf y sz 0 K → ∀ (H : Heap) (locs : List Loc), va_P G vwCl (wX a C Kz D Wt O (nI sz)) H → va_S A s.heap H locs → ∀ ls : Array Slot, lv_has ls 8 [(7, .int (nI i)), (1, .long y), (0, .ref (a 0))] → W p l e { frames := 1, cells := 0, slots := 0, locals := 30 } s m ([.ref (a 0), .long y] : List Value).toArray below meth c H locs 0 0 (MQ below (wr_Q G vwCl (some (.long (ft_sl Lf y sz 0 K (Lf 0)))) (wX a C (ft_sl Lf y sz 0 K) D Wt O (nI sz)) A) ([.ref (a 0), .long y] : List Value).toArray s 0 0 A) (F0 m 65 ls []) := by
    intro k
    induction k with
    | zero =>
      intro i Kz hi he H locs hP hS ls hl
      refine lv_iload hx hb dX0_slide_65 (lv_at hl 0 rfl) ?_
      refine lv_aload_n hx hb dX0_slide_67 rfl (lv_at hl 2 rfl) ?_
      refine va_get (D := G) (ci := 0) (C := RX0) (T := TX0) (N := 5) hx hb hts hin hown hK hP 0 rfl rfl 4 (by decide) (hts _ (tb_cons _ w_fl_X0_23)) (fun _ h9 => h9) rfl dX0_slide_68 ?_
      refine lv_icmp_ge (tgt := 96) hx hb dX0_slide_71 (by decide) (fun _ => ?_) (fun hc => absurd (nI_le (by omega) (by omega)) hc)
      refine lv_aload_n hx hb dX0_slide_96 rfl (lv_at hl 2 rfl) ?_
      refine lv_iconst (v := 0) hx hb dX0_slide_97 (by decide) ?_
      refine q_topi (y := nI 0) rfl ?_
      refine rd_call (W.runV (As := [.int (nI 0)]) (rest := []) S (cx_keyAt l G a C Kz D Wt O (nI sz) (i := 0) (by omega) (hO (0) (by omega)).1 (hO (0) (by omega)).2) (cwV 1 hts (gX0_53 tb_cons) rfl rfl rfl (by decide +kernel) ⟨Nat.le_of_ble_eq_true rfl, Nat.le_of_ble_eq_true rfl⟩) (pX_V hP hK) rfl rfl hl.1 rfl (lv_room (Nat.le_of_ble_eq_true rfl)) dX0_slide_98 ⟨Nat.zero_le _, Nat.zero_le _⟩) ?_
      have he : Kz = ft_sl Lf y sz 0 K := he
      rw [he] at hP ⊢
      exact W.lret hx hb hr (fun t ht _ => ⟨rfl, by rw [ht]; exact hP, hS.F ht⟩) hS.2.2 dX0_slide_101
    | succ k ih =>
      intro i Kz hi he H locs hP hS ls hl
      refine lv_iload hx hb dX0_slide_65 (lv_at hl 0 rfl) ?_
      refine lv_aload_n hx hb dX0_slide_67 rfl (lv_at hl 2 rfl) ?_
      refine va_get (D := G) (ci := 0) (C := RX0) (T := TX0) (N := 5) hx hb hts hin hown hK hP 0 rfl rfl 4 (by decide) (hts _ (tb_cons _ w_fl_X0_23)) (fun _ h9 => h9) rfl dX0_slide_68 ?_
      refine lv_icmp_ge (tgt := 96) hx hb dX0_slide_71 (by decide) (fun hc => absurd hc (nI_ge (by omega) (by omega))) (fun _ => ?_)
      refine lv_aload_n hx hb dX0_slide_74 rfl (lv_at hl 2 rfl) ?_
      refine va_get (D := G) (ci := 0) (C := RX0) (T := TX0) (N := 5) hx hb hts hin hown hK hP 0 rfl rfl 0 (by decide) (hts _ (tb_cons _ w_fl_X0_9)) (fun _ h9 => h9) rfl dX0_slide_75 ?_
      refine lv_aload_n hx hb dX0_slide_78 rfl (lv_at hl 2 rfl) ?_
      refine va_get (D := G) (ci := 0) (C := RX0) (T := TX0) (N := 5) hx hb hts hin hown hK hP 0 rfl rfl 3 (by decide) (hts _ (tb_cons _ w_fl_X0_20)) (fun _ h9 => h9) rfl dX0_slide_79 ?_
      refine lv_iload hx hb dX0_slide_82 (lv_at hl 0 rfl) ?_
      refine q_iald hx hb hK hP 4 3 rfl rfl (i) rfl (by omega) (by decide) dX0_slide_84 ?_
      refine q_topi (y := nI (Lf i)) (hO i (by omega)).1 ?_
      refine lv_dup2_11 hx hb dX0_slide_85 rfl rfl ?_
      refine q_lald hx hb hK hP 1 0 rfl rfl (Lf i) rfl (hO i (by omega)).2 (by decide) dX0_slide_86 ?_
      refine lv_lload_n hx hb dX0_slide_87 rfl (lv_at hl 1 rfl) ?_
      refine lv_ladd hx hb dX0_slide_88 ?_
      refine q_last hx hb hK hP (hD _ _ _ _ _) hS 1 0 rfl rfl (Lf i) rfl (hO i (by omega)).2 (by decide) dX0_slide_89 (fun H locs hP hS => ?_)
      have hP : va_P G vwCl (wX a C (vp_updL Kz (Lf i) ((Kz (Lf i)) + y)) D Wt O (nI sz)) H := hP
      refine lv_iinc (k := 0) (v := nI (i + 1)) hx hb dX0_slide_90 hl rfl (nI_succ i).symm (by decide) rfl (fun ls hl => ?_)
      have hl : lv_has ls 8 [(7, .int (nI (i + 1))), (1, .long y), (0, .ref (a 0))] := hl
      refine lv_goto (tgt := 65) hx hb dX0_slide_93 (by decide) ?_
      exact ih (i + 1) (vp_updL Kz (Lf i) (Kz (Lf i) + y)) (by omega) he H locs hP hS ls hl
  exact loop sz 0 K (by omega) rfl s.heap [] hP hS ls (lv_sub hl [0, 4, 3] rfl)
set_option maxHeartbeats 4000000 in
set_option maxRecDepth 100000 in
theorem cx_cut_some (l : Launch) (G : va_G) (a : Nat → Nat) (C : Nat → ClassId) {A : Nat → Prop} (hD : ∀ K D Wt O n, va_D A (wX a C K D Wt O n)) (K D : Nat → Int64) (Wt O : Nat → Int32) (Lf : Nat → Nat) (sz : Nat) (hs : sz ≤ 200) (hO : ∀ i, i < sz → O i = nI (Lf i) ∧ Lf i < 200) (lo hi : Int64) (h0 : (ft_fb (fun i => ft_sb K lo 0 (Lf i)) sz 0) < (ft_fb (fun i => ft_sb K hi 200 (Lf i)) sz 0)) : Met l yX0_cut wsX0_cut { frames := 3, cells := 0, slots := 0, locals := 90 } (va_Pc [.ref (a 0), .long lo, .long hi] (rX G a C K D Wt O (nI sz))) (wr_Q G vwCl (some (.int (nI ((ft_fb (fun i => ft_sb K hi 200 (Lf i)) sz 0) - (ft_fb (fun i => ft_sb K lo 0 (Lf i)) sz 0))))) (wX a C K D (ft_zr Lf ((ft_fb (fun i => ft_sb K hi 200 (Lf i)) sz 0) - (ft_fb (fun i => ft_sb K lo 0 (Lf i)) sz 0)) (ft_fb (fun i => ft_sb K lo 0 (Lf i)) sz 0) Wt) (va_cpy O O (ft_fb (fun i => ft_sb K hi 200 (Lf i)) sz 0) (ft_fb (fun i => ft_sb K lo 0 (Lf i)) sz 0) (sz - (ft_fb (fun i => ft_sb K hi 200 (Lf i)) sz 0))) (nI (sz - ((ft_fb (fun i => ft_sb K hi 200 (Lf i)) sz 0) - (ft_fb (fun i => ft_sb K lo 0 (Lf i)) sz 0))))) A) 0 0 A := by
  refine q_open (cc := cX0_cut) (maxL := 7) (ret := (some .int)) (by decide) rfl (Nat.le_of_ble_eq_true rfl) ?_
  intro p e s m below meth c ls S hr hlk hB hl
  obtain ⟨hx, hb, hml, hown, hts⟩ := id S
  obtain ⟨hP, hK⟩ := hB
  have hin : ∀ w ∈ u_ws RX0 TX0 5, w ∈ wsX0_cut := fun w h => tb_cons w (hinX0 w h)
  have hS : va_S A s.heap s.heap [] := va_S.rf
  have hl : lv_has ls 7 [(0, .ref (a 0)), (1, .long lo), (3, .long hi)] := hl
  refine lv_aload_n hx hb dX0_cut_0 rfl (lv_at hl 0 rfl) ?_
  refine lv_lload_n hx hb dX0_cut_1 rfl (lv_at hl 1 rfl) ?_
  refine rd_call (W.runV (As := [.long lo]) (rest := []) S (cx_placesBelow l G a C K D Wt O Lf sz hs hO lo) (cwV 1 hts (gX0_71 tb_cons) rfl rfl rfl (by decide +kernel) ⟨Nat.le_of_ble_eq_true rfl, Nat.le_of_ble_eq_true rfl⟩) (pX_V hP hK) rfl rfl hl.1 rfl (lv_room (Nat.le_of_ble_eq_true rfl)) dX0_cut_2 ⟨Nat.zero_le _, Nat.zero_le _⟩) ?_
  refine lv_istore hx hb dX0_cut_5 hl (by decide) rfl (fun ls hl => ?_)
  have hl : lv_has ls 7 [(5, .int (nI (ft_fb (fun i => ft_sb K lo 0 (Lf i)) sz 0))), (0, .ref (a 0)), (1, .long lo), (3, .long hi)] := hl
  refine lv_aload_n hx hb dX0_cut_7 rfl (lv_at hl 1 rfl) ?_
  refine lv_lload_n hx hb dX0_cut_8 rfl (lv_at hl 3 rfl) ?_
  refine rd_call (W.runV (As := [.long hi]) (rest := []) S (cx_placesNotAbove l G a C K D Wt O Lf sz hs hO hi) (cwV 1 hts (gX0_63 tb_cons) rfl rfl rfl (by decide +kernel) ⟨Nat.le_of_ble_eq_true rfl, Nat.le_of_ble_eq_true rfl⟩) (pX_V hP hK) rfl rfl hl.1 rfl (lv_room (Nat.le_of_ble_eq_true rfl)) dX0_cut_9 ⟨Nat.zero_le _, Nat.zero_le _⟩) ?_
  refine lv_istore hx hb dX0_cut_12 hl (by decide) rfl (fun ls hl => ?_)
  have hl : lv_has ls 7 [(6, .int (nI (ft_fb (fun i => ft_sb K hi 200 (Lf i)) sz 0))), (5, .int (nI (ft_fb (fun i => ft_sb K lo 0 (Lf i)) sz 0))), (0, .ref (a 0)), (1, .long lo), (3, .long hi)] := hl
  refine lv_iload hx hb dX0_cut_14 (lv_at hl 1 rfl) ?_
  refine lv_iload hx hb dX0_cut_16 (lv_at hl 0 rfl) ?_
  have hv : (ft_fb (fun i => ft_sb K hi 200 (Lf i)) sz 0) ≤ sz := by have := (ft_fb_spec (fun i => ft_sb K hi 200 (Lf i)) sz 0).2.1; omega
  refine lv_icmp_lt (tgt := 23) hx hb dX0_cut_18 (by decide) (fun _ => ?_) (fun hc => absurd (nI_lt h0 (by omega)) hc)
  refine lv_aload_n hx hb dX0_cut_23 rfl (lv_at hl 2 rfl) ?_
  refine lv_iload hx hb dX0_cut_24 (lv_at hl 1 rfl) ?_
  refine lv_iload hx hb dX0_cut_26 (lv_at hl 0 rfl) ?_
  refine wr_call (W.runV (As := [.int (nI (ft_fb (fun i => ft_sb K lo 0 (Lf i)) sz 0)), .int (nI (ft_fb (fun i => ft_sb K hi 200 (Lf i)) sz 0))]) (rest := []) S (cx_removePlaces l G a C hD K D Wt O Lf sz hs hO (u := (ft_fb (fun i => ft_sb K lo 0 (Lf i)) sz 0)) (v := (ft_fb (fun i => ft_sb K hi 200 (Lf i)) sz 0)) (by omega) hv) (cwV 2 hts (gX0_92 tb_cons) rfl rfl rfl (by decide +kernel) ⟨Nat.le_of_ble_eq_true rfl, Nat.le_of_ble_eq_true rfl⟩) (pX_V hP hK) rfl rfl hl.1 rfl (lv_room (Nat.le_of_ble_eq_true rfl)) dX0_cut_28 ⟨Nat.zero_le _, Nat.zero_le _⟩) hS (fun _ h => h) (fun H locs hP hS _ _ => ?_)
  have hP : va_P G vwCl (wX a C K D (ft_zr Lf ((ft_fb (fun i => ft_sb K hi 200 (Lf i)) sz 0) - (ft_fb (fun i => ft_sb K lo 0 (Lf i)) sz 0)) (ft_fb (fun i => ft_sb K lo 0 (Lf i)) sz 0) Wt) (va_cpy O O (ft_fb (fun i => ft_sb K hi 200 (Lf i)) sz 0) (ft_fb (fun i => ft_sb K lo 0 (Lf i)) sz 0) (sz - (ft_fb (fun i => ft_sb K hi 200 (Lf i)) sz 0))) (nI (sz - ((ft_fb (fun i => ft_sb K hi 200 (Lf i)) sz 0) - (ft_fb (fun i => ft_sb K lo 0 (Lf i)) sz 0))))) H := hP
  refine W.eq (g2 := F0 m 31 ls []) rfl ?_
  refine lv_iload hx hb dX0_cut_31 (lv_at hl 0 rfl) ?_
  refine lv_iload hx hb dX0_cut_33 (lv_at hl 1 rfl) ?_
  refine lv_isub hx hb dX0_cut_35 ?_
  refine q_topi (y := nI ((ft_fb (fun i => ft_sb K hi 200 (Lf i)) sz 0) - (ft_fb (fun i => ft_sb K lo 0 (Lf i)) sz 0))) (pk_sub (by omega)) ?_
  exact W.iret hx hb hr (fun t ht _ => ⟨rfl, by rw [ht]; exact hP, hS.F ht⟩) hS.2.2 dX0_cut_36
set_option maxHeartbeats 4000000 in
set_option maxRecDepth 100000 in
theorem cx_cut_none (l : Launch) (G : va_G) (a : Nat → Nat) (C : Nat → ClassId) {A : Nat → Prop} (hD : ∀ K D Wt O n, va_D A (wX a C K D Wt O n)) (K D : Nat → Int64) (Wt O : Nat → Int32) (Lf : Nat → Nat) (sz : Nat) (hs : sz ≤ 200) (hO : ∀ i, i < sz → O i = nI (Lf i) ∧ Lf i < 200) (lo hi : Int64) (h0 : (ft_fb (fun i => ft_sb K hi 200 (Lf i)) sz 0) ≤ (ft_fb (fun i => ft_sb K lo 0 (Lf i)) sz 0)) : Met l yX0_cut wsX0_cut { frames := 3, cells := 0, slots := 0, locals := 90 } (va_Pc [.ref (a 0), .long lo, .long hi] (rX G a C K D Wt O (nI sz))) (wr_Q G vwCl (some (.int 0)) (wX a C K D Wt O (nI sz)) A) 0 0 A := by
  refine q_open (cc := cX0_cut) (maxL := 7) (ret := (some .int)) (by decide) rfl (Nat.le_of_ble_eq_true rfl) ?_
  intro p e s m below meth c ls S hr hlk hB hl
  obtain ⟨hx, hb, hml, hown, hts⟩ := id S
  obtain ⟨hP, hK⟩ := hB
  have hin : ∀ w ∈ u_ws RX0 TX0 5, w ∈ wsX0_cut := fun w h => tb_cons w (hinX0 w h)
  have hS : va_S A s.heap s.heap [] := va_S.rf
  have hl : lv_has ls 7 [(0, .ref (a 0)), (1, .long lo), (3, .long hi)] := hl
  refine lv_aload_n hx hb dX0_cut_0 rfl (lv_at hl 0 rfl) ?_
  refine lv_lload_n hx hb dX0_cut_1 rfl (lv_at hl 1 rfl) ?_
  refine rd_call (W.runV (As := [.long lo]) (rest := []) S (cx_placesBelow l G a C K D Wt O Lf sz hs hO lo) (cwV 1 hts (gX0_71 tb_cons) rfl rfl rfl (by decide +kernel) ⟨Nat.le_of_ble_eq_true rfl, Nat.le_of_ble_eq_true rfl⟩) (pX_V hP hK) rfl rfl hl.1 rfl (lv_room (Nat.le_of_ble_eq_true rfl)) dX0_cut_2 ⟨Nat.zero_le _, Nat.zero_le _⟩) ?_
  refine lv_istore hx hb dX0_cut_5 hl (by decide) rfl (fun ls hl => ?_)
  have hl : lv_has ls 7 [(5, .int (nI (ft_fb (fun i => ft_sb K lo 0 (Lf i)) sz 0))), (0, .ref (a 0)), (1, .long lo), (3, .long hi)] := hl
  refine lv_aload_n hx hb dX0_cut_7 rfl (lv_at hl 1 rfl) ?_
  refine lv_lload_n hx hb dX0_cut_8 rfl (lv_at hl 3 rfl) ?_
  refine rd_call (W.runV (As := [.long hi]) (rest := []) S (cx_placesNotAbove l G a C K D Wt O Lf sz hs hO hi) (cwV 1 hts (gX0_63 tb_cons) rfl rfl rfl (by decide +kernel) ⟨Nat.le_of_ble_eq_true rfl, Nat.le_of_ble_eq_true rfl⟩) (pX_V hP hK) rfl rfl hl.1 rfl (lv_room (Nat.le_of_ble_eq_true rfl)) dX0_cut_9 ⟨Nat.zero_le _, Nat.zero_le _⟩) ?_
  refine lv_istore hx hb dX0_cut_12 hl (by decide) rfl (fun ls hl => ?_)
  have hl : lv_has ls 7 [(6, .int (nI (ft_fb (fun i => ft_sb K hi 200 (Lf i)) sz 0))), (5, .int (nI (ft_fb (fun i => ft_sb K lo 0 (Lf i)) sz 0))), (0, .ref (a 0)), (1, .long lo), (3, .long hi)] := hl
  refine lv_iload hx hb dX0_cut_14 (lv_at hl 1 rfl) ?_
  refine lv_iload hx hb dX0_cut_16 (lv_at hl 0 rfl) ?_
  have hu : (ft_fb (fun i => ft_sb K lo 0 (Lf i)) sz 0) ≤ sz := by have := (ft_fb_spec (fun i => ft_sb K lo 0 (Lf i)) sz 0).2.1; omega
  refine lv_icmp_lt (tgt := 23) hx hb dX0_cut_18 (by decide) (fun hc => absurd hc (nI_nlt h0 (by omega))) (fun _ => ?_)
  refine lv_iconst (v := 0) hx hb dX0_cut_21 (by decide) ?_
  exact W.iret hx hb hr (fun t ht _ => ⟨rfl, by rw [ht]; exact hP, hS.F ht⟩) hS.2.2 dX0_cut_22
