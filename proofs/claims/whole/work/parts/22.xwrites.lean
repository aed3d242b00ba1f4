set_option maxHeartbeats 4000000 in
set_option maxRecDepth 100000 in
theorem cx_removePlaces (l : Launch) (G : va_G) (a : Nat → Nat) (C : Nat → ClassId) {A : Nat → Prop} (hD : ∀ K D Wt O n, va_D A (wX a C K D Wt O n)) (K D : Nat → Int64) (Wt O : Nat → Int32) (Lf : Nat → Nat) (sz : Nat) (hs : sz ≤ 200) (hO : ∀ i, i < sz → O i = nI (Lf i) ∧ Lf i < 200) {u v : Nat} (huv : u ≤ v) (hv : v ≤ sz) : Met l yX0_removePlaces wsX0_removePlaces { frames := 1, cells := 0, slots := 0, locals := 30 } (va_Pc [.ref (a 0), .int (nI u), .int (nI v)] (rX G a C K D Wt O (nI sz))) (wr_Q G vwCl (none) (wX a C K D (ft_zr Lf (v - u) u Wt) (va_cpy O O v u (sz - v)) (nI (sz - (v - u)))) A) 0 0 A := by
  refine q_open (cc := cX0_removePlaces) (maxL := 4) (ret := none) (by decide) rfl (Nat.le_of_ble_eq_true rfl) ?_
  intro p e s m below meth c ls S hr hlk hB hl
  obtain ⟨hx, hb, hml, hown, hts⟩ := id S
  obtain ⟨hP, hK⟩ := hB
  have hin : ∀ w ∈ u_ws RX0 TX0 5, w ∈ wsX0_removePlaces := fun w h => tb_cons w (hinX0 w h)
  have hS : va_S A s.heap s.heap [] := va_S.rf
  have hl : lv_has ls 4 [(0, .ref (a 0)), (1, .int (nI u)), (2, .int (nI v))] := hl
  refine lv_iload_n hx hb dX0_removePlaces_0 rfl (lv_at hl 1 rfl) ?_
  refine lv_istore_n hx hb dX0_removePlaces_1 rfl hl (by decide) rfl (fun ls hl => ?_)
  have hl : lv_has ls 4 [(3, .int (nI u)), (0, .ref (a 0)), (1, .int (nI u)), (2, .int (nI v))] := hl
  have loop : ∀ (k : Nat) (i : Nat) (Wz : Nat → Int32), i + k = v → ft_zr Lf k i Wz = ft_zr Lf (v - u) u Wt → ∀ (H : Heap) (locs : List Loc), va_P G vwCl (wX a C K D Wz O (nI sz)) H → va_S A s.heap H locs → ∀ ls : Array Slot, lv_has ls 4 [(3, .int (nI i)), (0, .ref (a 0)), (1, .int (nI u)), (2, .int (nI v))] → W p l e { frames := 1, cells := 0, slots := 0, locals := 30 } s m ([.ref (a 0), .int (nI u), .int (nI v)] : List Value).toArray below meth c H locs 0 0 (MQ below (wr_Q G vwCl none (wX a C K D (ft_zr Lf (v - u) u Wt) (va_cpy O O v u (sz - v)) (nI (sz - (v - u)))) A) ([.ref (a 0), .int (nI u), .int (nI v)] : List Value).toArray s 0 0 A) (F0 m 2 ls []) := by
    intro k
    induction k with
    | zero =>
      intro i Wz hi he H locs hP hS ls hl
      refine lv_iload_n hx hb dX0_removePlaces_2 rfl (lv_at hl 0 rfl) ?_
      refine lv_iload_n hx hb dX0_removePlaces_3 rfl (lv_at hl 3 rfl) ?_
      refine lv_icmp_ge (tgt := 25) hx hb dX0_removePlaces_4 (by decide) (fun _ => ?_) (fun hc => absurd (nI_le (by omega) (by omega)) hc)
      refine lv_aload_n hx hb dX0_removePlaces_25 rfl (lv_at hl 1 rfl) ?_
      refine va_get (D := G) (ci := 0) (C := RX0) (T := TX0) (N := 5) hx hb hts hin hown hK hP 0 rfl rfl 3 (by decide) (hts _ (tb_cons _ w_fl_X0_20)) (fun _ h9 => h9) rfl dX0_removePlaces_26 ?_
      refine lv_iload_n hx hb dX0_removePlaces_29 rfl (lv_at hl 3 rfl) ?_
      refine lv_aload_n hx hb dX0_removePlaces_30 rfl (lv_at hl 1 rfl) ?_
      refine va_get (D := G) (ci := 0) (C := RX0) (T := TX0) (N := 5) hx hb hts hin hown hK hP 0 rfl rfl 3 (by decide) (hts _ (tb_cons _ w_fl_X0_20)) (fun _ h9 => h9) rfl dX0_removePlaces_31 ?_
      refine lv_iload_n hx hb dX0_removePlaces_34 rfl (lv_at hl 2 rfl) ?_
      refine lv_aload_n hx hb dX0_removePlaces_35 rfl (lv_at hl 1 rfl) ?_
      refine va_get (D := G) (ci := 0) (C := RX0) (T := TX0) (N := 5) hx hb hts hin hown hK hP 0 rfl rfl 4 (by decide) (hts _ (tb_cons _ w_fl_X0_23)) (fun _ h9 => h9) rfl dX0_removePlaces_36 ?_
      refine lv_iload_n hx hb dX0_removePlaces_39 rfl (lv_at hl 3 rfl) ?_
      refine lv_isub hx hb dX0_removePlaces_40 ?_
      refine q_copyi hx hb (hml.trans hl.1.symm) hown (hts _ (tb_cons _ w_ml_X0_108)) (hts _ (tb_cons _ w_nat_arraycopy)) (hts _ (tb_cons _ w_st_arraycopy)) (hts _ (tb_cons _ w_in_System)) hK hP (hD _ _ _ _ _) hS 4 4 3 3 rfl rfl rfl rfl (v) (u) (sz - v) rfl rfl (pk_sub hv) (by omega) (by omega) (by decide) (by decide) (Nat.le_of_ble_eq_true rfl) (Nat.le_of_ble_eq_true rfl) dX0_removePlaces_41 (fun H locs hP hS => ?_)
      have hP : va_P G vwCl (wX a C K D Wz (va_cpy O O v u (sz - v)) (nI sz)) H := hP
      refine lv_aload_n hx hb dX0_removePlaces_44 rfl (lv_at hl 1 rfl) ?_
      refine lv_dup hx hb dX0_removePlaces_45 rfl ?_
      refine va_get (D := G) (ci := 0) (C := RX0) (T := TX0) (N := 5) hx hb hts hin hown hK hP 0 rfl rfl 4 (by decide) (hts _ (tb_cons _ w_fl_X0_23)) (fun _ h9 => h9) rfl dX0_removePlaces_46 ?_
      refine lv_iload_n hx hb dX0_removePlaces_49 rfl (lv_at hl 3 rfl) ?_
      refine lv_iload_n hx hb dX0_removePlaces_50 rfl (lv_at hl 2 rfl) ?_
      refine lv_isub hx hb dX0_removePlaces_51 ?_
      refine lv_isub hx hb dX0_removePlaces_52 ?_
      refine va_put (D := G) (ci := 0) (v := .int (nI sz - (nI v - nI u))) (ty := .int) (C := RX0) (T := TX0) (N := 5) hx hb hts hin tyX0 tyX0_ok nmX0 hown hK hP (hD _ _ _ _ _) hS 0 rfl rfl 4 (by decide) (hts _ (tb_cons _ w_fl_X0_23)) (fun _ h9 => h9) rfl (by decide +kernel) rfl rfl (Nat.le_of_ble_eq_true rfl) dX0_removePlaces_53 (fun H locs hP _ hS => ?_)
      have hP : va_P G vwCl (wX a C K D Wz (va_cpy O O v u (sz - v)) (nI sz - (nI v - nI u))) H := hP
      have e9 : nI sz - (nI v - nI u) = nI (sz - (v - u)) := by rw [pk_sub huv, pk_sub (by omega)]
      rw [e9] at hP
      have he : Wz = ft_zr Lf (v - u) u Wt := he
      rw [he] at hP
      exact W.vret hx hb hr (fun t ht _ => ⟨rfl, by rw [ht]; exact hP, hS.F ht⟩) hS.2.2 dX0_removePlaces_56
    | succ k ih =>
      intro i Wz hi he H locs hP hS ls hl
      refine lv_iload_n hx hb dX0_removePlaces_2 rfl (lv_at hl 0 rfl) ?_
      refine lv_iload_n hx hb dX0_removePlaces_3 rfl (lv_at hl 3 rfl) ?_
      refine lv_icmp_ge (tgt := 25) hx hb dX0_removePlaces_4 (by decide) (fun hc => absurd hc (nI_ge (by omega) (by omega))) (fun _ => ?_)
      refine lv_aload_n hx hb dX0_removePlaces_7 rfl (lv_at hl 1 rfl) ?_
      refine va_get (D := G) (ci := 0) (C := RX0) (T := TX0) (N := 5) hx hb hts hin hown hK hP 0 rfl rfl 2 (by decide) (hts _ (tb_cons _ w_fl_X0_16)) (fun _ h9 => h9) rfl dX0_removePlaces_8 ?_
      refine lv_aload_n hx hb dX0_removePlaces_11 rfl (lv_at hl 1 rfl) ?_
      refine va_get (D := G) (ci := 0) (C := RX0) (T := TX0) (N := 5) hx hb hts hin hown hK hP 0 rfl rfl 3 (by decide) (hts _ (tb_cons _ w_fl_X0_20)) (fun _ h9 => h9) rfl dX0_removePlaces_12 ?_
      refine lv_iload_n hx hb dX0_removePlaces_15 rfl (lv_at hl 0 rfl) ?_
      refine q_iald hx hb hK hP 4 3 rfl rfl (i) rfl (by omega) (by decide) dX0_removePlaces_16 ?_
      refine q_topi (y := nI (Lf i)) (hO i (by omega)).1 ?_
      refine lv_iconst (v := 0) hx hb dX0_removePlaces_17 (by decide) ?_
      refine q_iast hx hb hK hP (hD _ _ _ _ _) hS 3 2 rfl rfl (Lf i) rfl (hO i (by omega)).2 (by decide) dX0_removePlaces_18 (fun H locs hP hS => ?_)
      have hP : va_P G vwCl (wX a C K D (upd Wz (Lf i) 0) O (nI sz)) H := hP
      refine lv_iinc (k := 0) (v := nI (i + 1)) hx hb dX0_removePlaces_19 hl rfl (nI_succ i).symm (by decide) rfl (fun ls hl => ?_)
      have hl : lv_has ls 4 [(3, .int (nI (i + 1))), (0, .ref (a 0)), (1, .int (nI u)), (2, .int (nI v))] := hl
      refine lv_goto (tgt := 2) hx hb dX0_removePlaces_22 (by decide) ?_
      exact ih (i + 1) (upd Wz (Lf i) 0) (by omega) he H locs hP hS ls hl
  exact loop (v - u) u Wt (by omega) rfl s.heap [] hP hS ls hl
set_option maxHeartbeats 4000000 in
set_option maxRecDepth 100000 in
theorem cx_removeItem (l : Launch) (G : va_G) (a : Nat → Nat) (C : Nat → ClassId) {A : Nat → Prop} (hD : ∀ K D Wt O n, va_D A (wX a C K D Wt O n)) (K D : Nat → Int64) (Wt O : Nat → Int32) (Lf : Nat → Nat) (sz : Nat) (hs : sz ≤ 200) (hO : ∀ i, i < sz → O i = nI (Lf i) ∧ Lf i < 200) {j : Nat} (hj : j < 200) (hq : (ft_fb (fun i => ft_sb K (K j) (nI j) (Lf i)) sz 0) < sz) : Met l yX0_removeItem wsX0_removeItem { frames := 2, cells := 0, slots := 0, locals := 60 } (va_Pc [.ref (a 0), .int (nI j)] (rX G a C K D Wt O (nI sz))) (wr_Q G vwCl (none) (wX a C K D (ft_zr Lf 1 (ft_fb (fun i => ft_sb K (K j) (nI j) (Lf i)) sz 0) Wt) (va_cpy O O ((ft_fb (fun i => ft_sb K (K j) (nI j) (Lf i)) sz 0) + 1) (ft_fb (fun i => ft_sb K (K j) (nI j) (Lf i)) sz 0) (sz - ((ft_fb (fun i => ft_sb K (K j) (nI j) (Lf i)) sz 0) + 1))) (nI (sz - 1))) A) 0 0 A := by
  refine q_open (cc := cX0_removeItem) (maxL := 3) (ret := none) (by decide) rfl (Nat.le_of_ble_eq_true rfl) ?_
  intro p e s m below meth c ls S hr hlk hB hl
  obtain ⟨hx, hb, hml, hown, hts⟩ := id S
  obtain ⟨hP, hK⟩ := hB
  have hin : ∀ w ∈ u_ws RX0 TX0 5, w ∈ wsX0_removeItem := fun w h => tb_cons w (hinX0 w h)
  have hS : va_S A s.heap s.heap [] := va_S.rf
  have hl : lv_has ls 3 [(0, .ref (a 0)), (1, .int (nI j))] := hl
  refine lv_aload_n hx hb dX0_removeItem_0 rfl (lv_at hl 0 rfl) ?_
  refine lv_aload_n hx hb dX0_removeItem_1 rfl (lv_at hl 0 rfl) ?_
  refine va_get (D := G) (ci := 0) (C := RX0) (T := TX0) (N := 5) hx hb hts hin hown hK hP 0 rfl rfl 0 (by decide) (hts _ (tb_cons _ w_fl_X0_9)) (fun _ h9 => h9) rfl dX0_removeItem_2 ?_
  refine lv_iload_n hx hb dX0_removeItem_5 rfl (lv_at hl 1 rfl) ?_
  refine q_lald hx hb hK hP 1 0 rfl rfl (j) rfl hj (by decide) dX0_removeItem_6 ?_
  refine lv_iload_n hx hb dX0_removeItem_7 rfl (lv_at hl 1 rfl) ?_
  refine rd_call (W.runV (As := [.long (K j), .int (nI j)]) (rest := []) S (cx_placesBefore l G a C K D Wt O Lf sz hs hO (K j) (nI j)) (cwV 2 hts (gX0_59 tb_cons) rfl rfl rfl (by decide +kernel) ⟨Nat.le_of_ble_eq_true rfl, Nat.le_of_ble_eq_true rfl⟩) (pX_V hP hK) rfl rfl hl.1 rfl (lv_room (Nat.le_of_ble_eq_true rfl)) dX0_removeItem_8 ⟨Nat.zero_le _, Nat.zero_le _⟩) ?_
  generalize hp9 : (ft_fb (fun i => ft_sb K (K j) (nI j) (Lf i)) sz 0) = q at hq ⊢
  refine lv_istore_n hx hb dX0_removeItem_11 rfl hl (by decide) rfl (fun ls hl => ?_)
  have hl : lv_has ls 3 [(2, .int (nI q)), (0, .ref (a 0)), (1, .int (nI j))] := hl
  refine lv_aload_n hx hb dX0_removeItem_12 rfl (lv_at hl 1 rfl) ?_
  refine lv_iload_n hx hb dX0_removeItem_13 rfl (lv_at hl 0 rfl) ?_
  refine lv_iload_n hx hb dX0_removeItem_14 rfl (lv_at hl 0 rfl) ?_
  refine lv_iconst (v := 1) hx hb dX0_removeItem_15 (by decide) ?_
  refine lv_iadd hx hb dX0_removeItem_16 ?_
  refine q_topi (y := nI (q + 1)) (nI_succ q).symm ?_
  refine wr_call (W.runV (As := [.int (nI q), .int (nI (q + 1))]) (rest := []) S (cx_removePlaces l G a C hD K D Wt O Lf sz hs hO (u := q) (v := q + 1) (by omega) (by omega)) (cwV 2 hts (gX0_92 tb_cons) rfl rfl rfl (by decide +kernel) ⟨Nat.le_of_ble_eq_true rfl, Nat.le_of_ble_eq_true rfl⟩) (pX_V hP hK) rfl rfl hl.1 rfl (lv_room (Nat.le_of_ble_eq_true rfl)) dX0_removeItem_17 ⟨Nat.zero_le _, Nat.zero_le _⟩) hS (fun _ h => h) (fun H locs hP hS _ _ => ?_)
  have hP : va_P G vwCl (wX a C K D (ft_zr Lf (q + 1 - q) q Wt) (va_cpy O O (q + 1) q (sz - (q + 1))) (nI (sz - (q + 1 - q)))) H := hP
  refine W.eq (g2 := F0 m 20 ls []) rfl ?_
  rw [Nat.add_sub_cancel_left] at hP
  exact W.vret hx hb hr (fun t ht _ => ⟨rfl, by rw [ht]; exact hP, hS.F ht⟩) hS.2.2 dX0_removeItem_20
set_option maxHeartbeats 4000000 in
set_option maxRecDepth 100000 in
theorem cx_insertItem (l : Launch) (G : va_G) (a : Nat → Nat) (C : Nat → ClassId) {A : Nat → Prop} (hD : ∀ K D Wt O n, va_D A (wX a C K D Wt O n)) (K D : Nat → Int64) (Wt O : Nat → Int32) (Lf : Nat → Nat) (sz : Nat) (hs : sz ≤ 200) (hO : ∀ i, i < sz → O i = nI (Lf i) ∧ Lf i < 200) {j : Nat} (hj : j < 200) (hz : sz < 200) : Met l yX0_insertItem wsX0_insertItem { frames := 2, cells := 0, slots := 0, locals := 60 } (va_Pc [.ref (a 0), .int (nI j)] (rX G a C K D Wt O (nI sz))) (wr_Q G vwCl (none) (wX a C K D Wt (upd (va_cpy O O (ft_fb (fun i => ft_sb K (K j) (nI j) (Lf i)) sz 0) ((ft_fb (fun i => ft_sb K (K j) (nI j) (Lf i)) sz 0) + 1) (sz - (ft_fb (fun i => ft_sb K (K j) (nI j) (Lf i)) sz 0))) (ft_fb (fun i => ft_sb K (K j) (nI j) (Lf i)) sz 0) (nI j)) (nI (sz + 1))) A) 0 0 A := by
  refine q_open (cc := cX0_insertItem) (maxL := 3) (ret := none) (by decide) rfl (Nat.le_of_ble_eq_true rfl) ?_
  intro p e s m below meth c ls S hr hlk hB hl
  obtain ⟨hx, hb, hml, hown, hts⟩ := id S
  obtain ⟨hP, hK⟩ := hB
  have hin : ∀ w ∈ u_ws RX0 TX0 5, w ∈ wsX0_insertItem := fun w h => tb_cons w (hinX0 w h)
  have hS : va_S A s.heap s.heap [] := va_S.rf
  have hl : lv_has ls 3 [(0, .ref (a 0)), (1, .int (nI j))] := hl
  refine lv_aload_n hx hb dX0_insertItem_0 rfl (lv_at hl 0 rfl) ?_
  refine lv_aload_n hx hb dX0_insertItem_1 rfl (lv_at hl 0 rfl) ?_
  refine va_get (D := G) (ci := 0) (C := RX0) (T := TX0) (N := 5) hx hb hts hin hown hK hP 0 rfl rfl 0 (by decide) (hts _ (tb_cons _ w_fl_X0_9)) (fun _ h9 => h9) rfl dX0_insertItem_2 ?_
  refine lv_iload_n hx hb dX0_insertItem_5 rfl (lv_at hl 1 rfl) ?_
  refine q_lald hx hb hK hP 1 0 rfl rfl (j) rfl hj (by decide) dX0_insertItem_6 ?_
  refine lv_iload_n hx hb dX0_insertItem_7 rfl (lv_at hl 1 rfl) ?_
  refine rd_call (W.runV (As := [.long (K j), .int (nI j)]) (rest := []) S (cx_placesBefore l G a C K D Wt O Lf sz hs hO (K j) (nI j)) (cwV 2 hts (gX0_59 tb_cons) rfl rfl rfl (by decide +kernel) ⟨Nat.le_of_ble_eq_true rfl, Nat.le_of_ble_eq_true rfl⟩) (pX_V hP hK) rfl rfl hl.1 rfl (lv_room (Nat.le_of_ble_eq_true rfl)) dX0_insertItem_8 ⟨Nat.zero_le _, Nat.zero_le _⟩) ?_
  have hq : (ft_fb (fun i => ft_sb K (K j) (nI j) (Lf i)) sz 0) ≤ sz := by have := (ft_fb_spec (fun i => ft_sb K (K j) (nI j) (Lf i)) sz 0).2.1; omega
  generalize hp9 : (ft_fb (fun i => ft_sb K (K j) (nI j) (Lf i)) sz 0) = q at hq ⊢
  refine lv_istore_n hx hb dX0_insertItem_11 rfl hl (by decide) rfl (fun ls hl => ?_)
  have hl : lv_has ls 3 [(2, .int (nI q)), (0, .ref (a 0)), (1, .int (nI j))] := hl
  refine lv_aload_n hx hb dX0_insertItem_12 rfl (lv_at hl 1 rfl) ?_
  refine va_get (D := G) (ci := 0) (C := RX0) (T := TX0) (N := 5) hx hb hts hin hown hK hP 0 rfl rfl 3 (by decide) (hts _ (tb_cons _ w_fl_X0_20)) (fun _ h9 => h9) rfl dX0_insertItem_13 ?_
  refine lv_iload_n hx hb dX0_insertItem_16 rfl (lv_at hl 0 rfl) ?_
  refine lv_aload_n hx hb dX0_insertItem_17 rfl (lv_at hl 1 rfl) ?_
  refine va_get (D := G) (ci := 0) (C := RX0) (T := TX0) (N := 5) hx hb hts hin hown hK hP 0 rfl rfl 3 (by decide) (hts _ (tb_cons _ w_fl_X0_20)) (fun _ h9 => h9) rfl dX0_insertItem_18 ?_
  refine lv_iload_n hx hb dX0_insertItem_21 rfl (lv_at hl 0 rfl) ?_
  refine lv_iconst (v := 1) hx hb dX0_insertItem_22 (by decide) ?_
  refine lv_iadd hx hb dX0_insertItem_23 ?_
  refine lv_aload_n hx hb dX0_insertItem_24 rfl (lv_at hl 1 rfl) ?_
  refine va_get (D := G) (ci := 0) (C := RX0) (T := TX0) (N := 5) hx hb hts hin hown hK hP 0 rfl rfl 4 (by decide) (hts _ (tb_cons _ w_fl_X0_23)) (fun _ h9 => h9) rfl dX0_insertItem_25 ?_
  refine lv_iload_n hx hb dX0_insertItem_28 rfl (lv_at hl 0 rfl) ?_
  refine lv_isub hx hb dX0_insertItem_29 ?_
  refine q_copyi hx hb (hml.trans hl.1.symm) hown (hts _ (tb_cons _ w_ml_X0_108)) (hts _ (tb_cons _ w_nat_arraycopy)) (hts _ (tb_cons _ w_st_arraycopy)) (hts _ (tb_cons _ w_in_System)) hK hP (hD _ _ _ _ _) hS 4 4 3 3 rfl rfl rfl rfl (q) (q + 1) (sz - q) rfl (nI_succ q).symm (pk_sub hq) (by omega) (by omega) (by decide) (by decide) (Nat.le_of_ble_eq_true rfl) (Nat.le_of_ble_eq_true rfl) dX0_insertItem_30 (fun H locs hP hS => ?_)
  have hP : va_P G vwCl (wX a C K D Wt (va_cpy O O q (q + 1) (sz - q)) (nI sz)) H := hP
  refine lv_aload_n hx hb dX0_insertItem_33 rfl (lv_at hl 1 rfl) ?_
  refine va_get (D := G) (ci := 0) (C := RX0) (T := TX0) (N := 5) hx hb hts hin hown hK hP 0 rfl rfl 3 (by decide) (hts _ (tb_cons _ w_fl_X0_20)) (fun _ h9 => h9) rfl dX0_insertItem_34 ?_
  refine lv_iload_n hx hb dX0_insertItem_37 rfl (lv_at hl 0 rfl) ?_
  refine lv_iload_n hx hb dX0_insertItem_38 rfl (lv_at hl 2 rfl) ?_
  refine q_iast hx hb hK hP (hD _ _ _ _ _) hS 4 3 rfl rfl (q) rfl (by omega) (by decide) dX0_insertItem_39 (fun H locs hP hS => ?_)
  have hP : va_P G vwCl (wX a C K D Wt (upd (va_cpy O O q (q + 1) (sz - q)) q (nI j)) (nI sz)) H := hP
  refine lv_aload_n hx hb dX0_insertItem_40 rfl (lv_at hl 1 rfl) ?_
  refine lv_dup hx hb dX0_insertItem_41 rfl ?_
  refine va_get (D := G) (ci := 0) (C := RX0) (T := TX0) (N := 5) hx hb hts hin hown hK hP 0 rfl rfl 4 (by decide) (hts _ (tb_cons _ w_fl_X0_23)) (fun _ h9 => h9) rfl dX0_insertItem_42 ?_
  refine lv_iconst (v := 1) hx hb dX0_insertItem_45 (by decide) ?_
  refine lv_iadd hx hb dX0_insertItem_46 ?_
  refine va_put (D := G) (ci := 0) (v := .int (nI sz + 1)) (ty := .int) (C := RX0) (T := TX0) (N := 5) hx hb hts hin tyX0 tyX0_ok nmX0 hown hK hP (hD _ _ _ _ _) hS 0 rfl rfl 4 (by decide) (hts _ (tb_cons _ w_fl_X0_23)) (fun _ h9 => h9) rfl (by decide +kernel) rfl rfl (Nat.le_of_ble_eq_true rfl) dX0_insertItem_47 (fun H locs hP _ hS => ?_)
  have hP : va_P G vwCl (wX a C K D Wt (upd (va_cpy O O q (q + 1) (sz - q)) q (nI j)) (nI sz + 1)) H := hP
  rw [← nI_succ] at hP
  exact W.vret hx hb hr (fun t ht _ => ⟨rfl, by rw [ht]; exact hP, hS.F ht⟩) hS.2.2 dX0_insertItem_50
