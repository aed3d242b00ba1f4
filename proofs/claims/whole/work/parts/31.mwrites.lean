set_option maxHeartbeats 4000000 in
set_option maxRecDepth 100000 in
theorem cm_fail (l : Launch) (G : va_G) (a : Nat → Nat) (C : Nat → ClassId) {A : Nat → Prop} (hD : ∀ T K D w th, va_D A (wM a C T K D w th)) (T : Nat → Bool) (K D : Nat → Int64) (w : Nat → Int32) (th : Int32) {x : Int32} : Met l yX1_fail wsX1_fail rm0 (va_Pc [.ref (a 0), .int x] (rM G a C T K D w th)) (wr_Q G vwCl (some (.int 0)) (wM a C T K D w x) A) 0 0 A := by
  refine q_open (cc := cX1_fail) (maxL := 2) (ret := (some .int)) (by decide) rfl (Nat.le_of_ble_eq_true rfl) ?_
  intro p e s m below meth c ls S hr hlk hB hl
  obtain ⟨hx, hb, hml, hown, hts⟩ := id S
  obtain ⟨hP, hK⟩ := hB
  have hin : ∀ w ∈ u_ws RX1 TX1 5, w ∈ wsX1_fail := fun w h => tb_cons w (hinX1 w h)
  have hS : va_S A s.heap s.heap [] := va_S.rf
  have hl : lv_has ls 2 [(0, .ref (a 0)), (1, .int x)] := hl
  refine lv_aload_n hx hb dX1_fail_0 rfl (lv_at hl 0 rfl) ?_
  refine lv_iload_n hx hb dX1_fail_1 rfl (lv_at hl 1 rfl) ?_
  refine va_put (D := G) (ci := 1) (v := .int x) (ty := .int) (C := RX1) (T := TX1) (N := 5) hx hb hts hin tyX1 tyX1_ok nmX1 hown hK hP (hD _ _ _ _ _) hS 0 rfl rfl 4 (by decide) (hts _ (tb_cons _ w_fl_X1_24)) (fun _ h9 => h9) rfl (by decide +kernel) rfl rfl (Nat.le_of_ble_eq_true rfl) dX1_fail_2 (fun H locs hP _ hS => ?_)
  have hP : va_P G vwCl (wM a C T K D w x) H := hP
  refine lv_iconst (v := 0) hx hb dX1_fail_5 (by decide) ?_
  exact W.iret hx hb hr (fun t ht _ => ⟨rfl, by rw [ht]; exact hP, hS.F ht⟩) hS.2.2 dX1_fail_6
set_option maxHeartbeats 4000000 in
set_option maxRecDepth 100000 in
theorem cm_no_yes (l : Launch) (G : va_G) (a : Nat → Nat) (C : Nat → ClassId) {A : Nat → Prop} (hD : ∀ T K D w th, va_D A (wM a C T K D w th)) (T : Nat → Bool) (K D : Nat → Int64) (w : Nat → Int32) (th : Int32) {j : Nat} (hj : j < 200) (hT : T j = true) : Met l yX1_no wsX1_no rm0 (va_Pc [.ref (a 0), .int (nI j)] (rM G a C T K D w th)) (wr_Q G vwCl (some (.int 0)) (wM a C T K D w 0) A) 0 0 A := by
  refine q_open (cc := cX1_no) (maxL := 2) (ret := (some .boolean)) (by decide) rfl (Nat.le_of_ble_eq_true rfl) ?_
  intro p e s m below meth c ls S hr hlk hB hl
  obtain ⟨hx, hb, hml, hown, hts⟩ := id S
  obtain ⟨hP, hK⟩ := hB
  have hin : ∀ w ∈ u_ws RX1 TX1 5, w ∈ wsX1_no := fun w h => tb_cons w (hinX1 w h)
  have hS : va_S A s.heap s.heap [] := va_S.rf
  have hl : lv_has ls 2 [(0, .ref (a 0)), (1, .int (nI j))] := hl
  refine lv_aload_n hx hb dX1_no_0 rfl (lv_at hl 0 rfl) ?_
  refine lv_iload_n hx hb dX1_no_1 rfl (lv_at hl 1 rfl) ?_
  refine lv_if_lt (tgt := 21) hx hb dX1_no_2 (by decide) (fun hc => absurd hc (nI_pos (by omega))) (fun _ => ?_)
  refine lv_iload_n hx hb dX1_no_5 rfl (lv_at hl 1 rfl) ?_
  refine lv_sipush (v := 200) hx hb dX1_no_6 (by decide) ?_
  refine lv_icmp_ge (tgt := 21) hx hb dX1_no_9 (by decide) (fun hc => absurd hc (nI_ge (b := 200) hj (by decide))) (fun _ => ?_)
  refine lv_aload_n hx hb dX1_no_12 rfl (lv_at hl 0 rfl) ?_
  refine va_get (D := G) (ci := 1) (C := RX1) (T := TX1) (N := 5) hx hb hts hin hown hK hP 0 rfl rfl 0 (by decide) (hts _ (tb_cons _ w_fl_X1_9)) (fun _ h9 => h9) rfl dX1_no_13 ?_
  refine lv_iload_n hx hb dX1_no_16 rfl (lv_at hl 1 rfl) ?_
  refine q_zald hx hb hK hP 1 0 rfl rfl (j) rfl hj (by decide) dX1_no_17 ?_
  refine q_topi (y := 1) (ft_tb_t hT) ?_
  refine lv_if_ne (tgt := 25) hx hb dX1_no_18 (by decide) (fun _ => ?_) (fun hc => absurd hc (by decide))
  refine lv_iconst (v := 0) hx hb dX1_no_25 (by decide) ?_
  refine va_put (D := G) (ci := 1) (v := .int 0) (ty := .int) (C := RX1) (T := TX1) (N := 5) hx hb hts hin tyX1 tyX1_ok nmX1 hown hK hP (hD _ _ _ _ _) hS 0 rfl rfl 4 (by decide) (hts _ (tb_cons _ w_fl_X1_24)) (fun _ h9 => h9) rfl (by decide +kernel) rfl rfl (Nat.le_of_ble_eq_true rfl) dX1_no_26 (fun H locs hP _ hS => ?_)
  have hP : va_P G vwCl (wM a C T K D w 0) H := hP
  refine lv_aload_n hx hb dX1_no_29 rfl (lv_at hl 0 rfl) ?_
  refine va_get (D := G) (ci := 1) (C := RX1) (T := TX1) (N := 5) hx hb hts hin hown hK hP 0 rfl rfl 4 (by decide) (hts _ (tb_cons _ w_fl_X1_24)) (fun _ h9 => h9) rfl dX1_no_30 ?_
  refine lv_if_le (tgt := 40) hx hb dX1_no_33 (by decide) (fun _ => ?_) (fun hc => absurd (by decide) hc)
  refine lv_iconst (v := 0) hx hb dX1_no_40 (by decide) ?_
  exact W.zret hx hb hr rfl (fun t ht _ => ⟨rfl, by rw [ht]; exact hP, hS.F ht⟩) hS.2.2 dX1_no_41
set_option maxHeartbeats 4000000 in
set_option maxRecDepth 100000 in
theorem cm_no_not (l : Launch) (G : va_G) (a : Nat → Nat) (C : Nat → ClassId) {A : Nat → Prop} (hD : ∀ T K D w th, va_D A (wM a C T K D w th)) (T : Nat → Bool) (K D : Nat → Int64) (w : Nat → Int32) (th : Int32) {j : Nat} (hj : j < 200) (hT : ¬ T j = true) : Met l yX1_no wsX1_no rm0 (va_Pc [.ref (a 0), .int (nI j)] (rM G a C T K D w th)) (wr_Q G vwCl (some (.int 1)) (wM a C T K D w 1) A) 0 0 A := by
  refine q_open (cc := cX1_no) (maxL := 2) (ret := (some .boolean)) (by decide) rfl (Nat.le_of_ble_eq_true rfl) ?_
  intro p e s m below meth c ls S hr hlk hB hl
  obtain ⟨hx, hb, hml, hown, hts⟩ := id S
  obtain ⟨hP, hK⟩ := hB
  have hin : ∀ w ∈ u_ws RX1 TX1 5, w ∈ wsX1_no := fun w h => tb_cons w (hinX1 w h)
  have hS : va_S A s.heap s.heap [] := va_S.rf
  have hl : lv_has ls 2 [(0, .ref (a 0)), (1, .int (nI j))] := hl
  refine lv_aload_n hx hb dX1_no_0 rfl (lv_at hl 0 rfl) ?_
  refine lv_iload_n hx hb dX1_no_1 rfl (lv_at hl 1 rfl) ?_
  refine lv_if_lt (tgt := 21) hx hb dX1_no_2 (by decide) (fun hc => absurd hc (nI_pos (by omega))) (fun _ => ?_)
  refine lv_iload_n hx hb dX1_no_5 rfl (lv_at hl 1 rfl) ?_
  refine lv_sipush (v := 200) hx hb dX1_no_6 (by decide) ?_
  refine lv_icmp_ge (tgt := 21) hx hb dX1_no_9 (by decide) (fun hc => absurd hc (nI_ge (b := 200) hj (by decide))) (fun _ => ?_)
  refine lv_aload_n hx hb dX1_no_12 rfl (lv_at hl 0 rfl) ?_
  refine va_get (D := G) (ci := 1) (C := RX1) (T := TX1) (N := 5) hx hb hts hin hown hK hP 0 rfl rfl 0 (by decide) (hts _ (tb_cons _ w_fl_X1_9)) (fun _ h9 => h9) rfl dX1_no_13 ?_
  refine lv_iload_n hx hb dX1_no_16 rfl (lv_at hl 1 rfl) ?_
  refine q_zald hx hb hK hP 1 0 rfl rfl (j) rfl hj (by decide) dX1_no_17 ?_
  refine q_topi (y := 0) (ft_tb_f hT) ?_
  refine lv_if_ne (tgt := 25) hx hb dX1_no_18 (by decide) (fun hc => absurd (rfl) hc) (fun _ => ?_)
  refine lv_iconst (v := 1) hx hb dX1_no_21 (by decide) ?_
  refine lv_goto (tgt := 26) hx hb dX1_no_22 (by decide) ?_
  refine va_put (D := G) (ci := 1) (v := .int 1) (ty := .int) (C := RX1) (T := TX1) (N := 5) hx hb hts hin tyX1 tyX1_ok nmX1 hown hK hP (hD _ _ _ _ _) hS 0 rfl rfl 4 (by decide) (hts _ (tb_cons _ w_fl_X1_24)) (fun _ h9 => h9) rfl (by decide +kernel) rfl rfl (Nat.le_of_ble_eq_true rfl) dX1_no_26 (fun H locs hP _ hS => ?_)
  have hP : va_P G vwCl (wM a C T K D w 1) H := hP
  refine lv_aload_n hx hb dX1_no_29 rfl (lv_at hl 0 rfl) ?_
  refine va_get (D := G) (ci := 1) (C := RX1) (T := TX1) (N := 5) hx hb hts hin hown hK hP 0 rfl rfl 4 (by decide) (hts _ (tb_cons _ w_fl_X1_24)) (fun _ h9 => h9) rfl dX1_no_30 ?_
  refine lv_if_le (tgt := 40) hx hb dX1_no_33 (by decide) (fun hc => absurd hc (by decide)) (fun _ => ?_)
  refine lv_iconst (v := 1) hx hb dX1_no_36 (by decide) ?_
  refine lv_goto (tgt := 41) hx hb dX1_no_37 (by decide) ?_
  exact W.zret hx hb hr rfl (fun t ht _ => ⟨rfl, by rw [ht]; exact hP, hS.F ht⟩) hS.2.2 dX1_no_41
set_option maxHeartbeats 4000000 in
set_option maxRecDepth 100000 in
theorem cm_no_out (l : Launch) (G : va_G) (a : Nat → Nat) (C : Nat → ClassId) {A : Nat → Prop} (hD : ∀ T K D w th, va_D A (wM a C T K D w th)) (T : Nat → Bool) (K D : Nat → Int64) (w : Nat → Int32) (th : Int32) {x : Int32} (h : x < 0 ∨ 200 ≤ x) : Met l yX1_no wsX1_no rm0 (va_Pc [.ref (a 0), .int x] (rM G a C T K D w th)) (wr_Q G vwCl (some (.int 1)) (wM a C T K D w 1) A) 0 0 A := by
  refine q_open (cc := cX1_no) (maxL := 2) (ret := (some .boolean)) (by decide) rfl (Nat.le_of_ble_eq_true rfl) ?_
  intro p e s m below meth c ls S hr hlk hB hl
  obtain ⟨hx, hb, hml, hown, hts⟩ := id S
  obtain ⟨hP, hK⟩ := hB
  have hin : ∀ w ∈ u_ws RX1 TX1 5, w ∈ wsX1_no := fun w h => tb_cons w (hinX1 w h)
  have hS : va_S A s.heap s.heap [] := va_S.rf
  have hl : lv_has ls 2 [(0, .ref (a 0)), (1, .int x)] := hl
  refine lv_aload_n hx hb dX1_no_0 rfl (lv_at hl 0 rfl) ?_
  refine lv_iload_n hx hb dX1_no_1 rfl (lv_at hl 1 rfl) ?_
  refine lv_if_lt (tgt := 21) hx hb dX1_no_2 (by decide) (fun hc => ?_) (fun hc => ?_)
  · refine lv_iconst (v := 1) hx hb dX1_no_21 (by decide) ?_
    refine lv_goto (tgt := 26) hx hb dX1_no_22 (by decide) ?_
    refine va_put (D := G) (ci := 1) (v := .int 1) (ty := .int) (C := RX1) (T := TX1) (N := 5) hx hb hts hin tyX1 tyX1_ok nmX1 hown hK hP (hD _ _ _ _ _) hS 0 rfl rfl 4 (by decide) (hts _ (tb_cons _ w_fl_X1_24)) (fun _ h9 => h9) rfl (by decide +kernel) rfl rfl (Nat.le_of_ble_eq_true rfl) dX1_no_26 (fun H locs hP _ hS => ?_)
    have hP : va_P G vwCl (wM a C T K D w 1) H := hP
    refine lv_aload_n hx hb dX1_no_29 rfl (lv_at hl 0 rfl) ?_
    refine va_get (D := G) (ci := 1) (C := RX1) (T := TX1) (N := 5) hx hb hts hin hown hK hP 0 rfl rfl 4 (by decide) (hts _ (tb_cons _ w_fl_X1_24)) (fun _ h9 => h9) rfl dX1_no_30 ?_
    refine lv_if_le (tgt := 40) hx hb dX1_no_33 (by decide) (fun hc => absurd hc (by decide)) (fun _ => ?_)
    refine lv_iconst (v := 1) hx hb dX1_no_36 (by decide) ?_
    refine lv_goto (tgt := 41) hx hb dX1_no_37 (by decide) ?_
    exact W.zret hx hb hr rfl (fun t ht _ => ⟨rfl, by rw [ht]; exact hP, hS.F ht⟩) hS.2.2 dX1_no_41
  · refine lv_iload_n hx hb dX1_no_5 rfl (lv_at hl 1 rfl) ?_
    refine lv_sipush (v := 200) hx hb dX1_no_6 (by decide) ?_
    refine lv_icmp_ge (tgt := 21) hx hb dX1_no_9 (by decide) (fun _ => ?_) (fun hc2 => absurd (h.resolve_left hc) hc2)
    refine lv_iconst (v := 1) hx hb dX1_no_21 (by decide) ?_
    refine lv_goto (tgt := 26) hx hb dX1_no_22 (by decide) ?_
    refine va_put (D := G) (ci := 1) (v := .int 1) (ty := .int) (C := RX1) (T := TX1) (N := 5) hx hb hts hin tyX1 tyX1_ok nmX1 hown hK hP (hD _ _ _ _ _) hS 0 rfl rfl 4 (by decide) (hts _ (tb_cons _ w_fl_X1_24)) (fun _ h9 => h9) rfl (by decide +kernel) rfl rfl (Nat.le_of_ble_eq_true rfl) dX1_no_26 (fun H locs hP _ hS => ?_)
    have hP : va_P G vwCl (wM a C T K D w 1) H := hP
    refine lv_aload_n hx hb dX1_no_29 rfl (lv_at hl 0 rfl) ?_
    refine va_get (D := G) (ci := 1) (C := RX1) (T := TX1) (N := 5) hx hb hts hin hown hK hP 0 rfl rfl 4 (by decide) (hts _ (tb_cons _ w_fl_X1_24)) (fun _ h9 => h9) rfl dX1_no_30 ?_
    refine lv_if_le (tgt := 40) hx hb dX1_no_33 (by decide) (fun hc => absurd hc (by decide)) (fun _ => ?_)
    refine lv_iconst (v := 1) hx hb dX1_no_36 (by decide) ?_
    refine lv_goto (tgt := 41) hx hb dX1_no_37 (by decide) ?_
    exact W.zret hx hb hr rfl (fun t ht _ => ⟨rfl, by rw [ht]; exact hP, hS.F ht⟩) hS.2.2 dX1_no_41
set_option maxHeartbeats 4000000 in
set_option maxRecDepth 100000 in
theorem cm_drop_no (l : Launch) (G : va_G) (a : Nat → Nat) (C : Nat → ClassId) {A : Nat → Prop} (hD : ∀ T K D w th, va_D A (wM a C T K D w th)) (T : Nat → Bool) (K D : Nat → Int64) (w : Nat → Int32) (th : Int32) {x : Int32} (hN : Met l yX1_no wsX1_no rm0 (va_Pc [.ref (a 0), .int x] (rM G a C T K D w th)) (wr_Q G vwCl (some (.int 1)) (wM a C T K D w 1) A) 0 0 A) : Met l yX1_drop wsX1_drop { frames := 1, cells := 0, slots := 0, locals := 30 } (va_Pc [.ref (a 0), .int x] (rM G a C T K D w th)) (wr_Q G vwCl (some (.int 0)) (wM a C T K D w 1) A) 0 0 A := by
  refine q_open (cc := cX1_drop) (maxL := 2) (ret := (some .int)) (by decide) rfl (Nat.le_of_ble_eq_true rfl) ?_
  intro p e s m below meth c ls S hr hlk hB hl
  obtain ⟨hx, hb, hml, hown, hts⟩ := id S
  obtain ⟨hP, hK⟩ := hB
  have hin : ∀ w ∈ u_ws RX1 TX1 5, w ∈ wsX1_drop := fun w h => tb_cons w (hinX1 w h)
  have hS : va_S A s.heap s.heap [] := va_S.rf
  have hl : lv_has ls 2 [(0, .ref (a 0)), (1, .int x)] := hl
  refine lv_aload_n hx hb dX1_drop_0 rfl (lv_at hl 0 rfl) ?_
  refine lv_iload_n hx hb dX1_drop_1 rfl (lv_at hl 1 rfl) ?_
  refine wr_call (W.runV (As := [.int x]) (rest := []) S (hN) (cwV 1 hts (gX1_36 tb_cons) rfl rfl rfl (by decide +kernel) ⟨Nat.le_of_ble_eq_true rfl, Nat.le_of_ble_eq_true rfl⟩) (pM_V hP hK) rfl rfl hl.1 rfl (lv_room (Nat.le_of_ble_eq_true rfl)) dX1_drop_2 ⟨Nat.zero_le _, Nat.zero_le _⟩) hS (fun _ h => h) (fun H locs hP hS _ _ => ?_)
  have hP : va_P G vwCl (wM a C T K D w 1) H := hP
  refine W.eq (g2 := F0 m 5 ls [.int 1]) rfl ?_
  refine lv_if_eq (tgt := 10) hx hb dX1_drop_5 (by decide) (fun hc => absurd hc (by decide)) (fun _ => ?_)
  refine lv_iconst (v := 0) hx hb dX1_drop_8 (by decide) ?_
  exact W.iret hx hb hr (fun t ht _ => ⟨rfl, by rw [ht]; exact hP, hS.F ht⟩) hS.2.2 dX1_drop_9
set_option maxHeartbeats 4000000 in
set_option maxRecDepth 100000 in
theorem cm_drop (l : Launch) (G : va_G) (a : Nat → Nat) (C : Nat → ClassId) {A : Nat → Prop} (hD : ∀ T K D w th, va_D A (wM a C T K D w th)) (T : Nat → Bool) (K D : Nat → Int64) (w : Nat → Int32) (th : Int32) {j : Nat} (hj : j < 200) (hT : T j = true) : Met l yX1_drop wsX1_drop { frames := 1, cells := 0, slots := 0, locals := 30 } (va_Pc [.ref (a 0), .int (nI j)] (rM G a C T K D w th)) (wr_Q G vwCl (some (.int (w j))) (wM a C (fun i => if i = j then false else T i) K D w 0) A) 0 0 A := by
  refine q_open (cc := cX1_drop) (maxL := 2) (ret := (some .int)) (by decide) rfl (Nat.le_of_ble_eq_true rfl) ?_
  intro p e s m below meth c ls S hr hlk hB hl
  obtain ⟨hx, hb, hml, hown, hts⟩ := id S
  obtain ⟨hP, hK⟩ := hB
  have hin : ∀ w ∈ u_ws RX1 TX1 5, w ∈ wsX1_drop := fun w h => tb_cons w (hinX1 w h)
  have hS : va_S A s.heap s.heap [] := va_S.rf
  have hl : lv_has ls 2 [(0, .ref (a 0)), (1, .int (nI j))] := hl
  refine lv_aload_n hx hb dX1_drop_0 rfl (lv_at hl 0 rfl) ?_
  refine lv_iload_n hx hb dX1_drop_1 rfl (lv_at hl 1 rfl) ?_
  refine wr_call (W.runV (As := [.int (nI j)]) (rest := []) S (cm_no_yes l G a C hD T K D w th hj hT) (cwV 1 hts (gX1_36 tb_cons) rfl rfl rfl (by decide +kernel) ⟨Nat.le_of_ble_eq_true rfl, Nat.le_of_ble_eq_true rfl⟩) (pM_V hP hK) rfl rfl hl.1 rfl (lv_room (Nat.le_of_ble_eq_true rfl)) dX1_drop_2 ⟨Nat.zero_le _, Nat.zero_le _⟩) hS (fun _ h => h) (fun H locs hP hS _ _ => ?_)
  have hP : va_P G vwCl (wM a C T K D w 0) H := hP
  refine W.eq (g2 := F0 m 5 ls [.int 0]) rfl ?_
  refine lv_if_eq (tgt := 10) hx hb dX1_drop_5 (by decide) (fun _ => ?_) (fun hc => absurd (rfl) hc)
  refine lv_aload_n hx hb dX1_drop_10 rfl (lv_at hl 0 rfl) ?_
  refine va_get (D := G) (ci := 1) (C := RX1) (T := TX1) (N := 5) hx hb hts hin hown hK hP 0 rfl rfl 0 (by decide) (hts _ (tb_cons _ w_fl_X1_9)) (fun _ h9 => h9) rfl dX1_drop_11 ?_
  refine lv_iload_n hx hb dX1_drop_14 rfl (lv_at hl 1 rfl) ?_
  refine lv_iconst (v := 0) hx hb dX1_drop_15 (by decide) ?_
  refine q_zast hx hb hK hP (hD _ _ _ _ _) hS 1 0 rfl rfl (j) rfl hj (by decide) rfl dX1_drop_16 (fun H locs hP hS => ?_)
  rw [ft_tb_up0] at hP
  have hP : va_P G vwCl (wM a C (fun i9 => if i9 = j then false else T i9) K D w 0) H := hP
  refine lv_aload_n hx hb dX1_drop_17 rfl (lv_at hl 0 rfl) ?_
  refine va_get (D := G) (ci := 1) (C := RX1) (T := TX1) (N := 5) hx hb hts hin hown hK hP 0 rfl rfl 3 (by decide) (hts _ (tb_cons _ w_fl_X1_20)) (fun _ h9 => h9) rfl dX1_drop_18 ?_
  refine lv_iload_n hx hb dX1_drop_21 rfl (lv_at hl 1 rfl) ?_
  refine q_iald hx hb hK hP 4 3 rfl rfl (j) rfl hj (by decide) dX1_drop_22 ?_
  exact W.iret hx hb hr (fun t ht _ => ⟨rfl, by rw [ht]; exact hP, hS.F ht⟩) hS.2.2 dX1_drop_23
set_option maxHeartbeats 4000000 in
set_option maxRecDepth 100000 in
theorem cm_rank_no (l : Launch) (G : va_G) (a : Nat → Nat) (C : Nat → ClassId) {A : Nat → Prop} (hD : ∀ T K D w th, va_D A (wM a C T K D w th)) (T : Nat → Bool) (K D : Nat → Int64) (w : Nat → Int32) (th : Int32) {x : Int32} (hN : Met l yX1_no wsX1_no rm0 (va_Pc [.ref (a 0), .int x] (rM G a C T K D w th)) (wr_Q G vwCl (some (.int 1)) (wM a C T K D w 1) A) 0 0 A) : Met l yX1_rank wsX1_rank { frames := 2, cells := 0, slots := 0, locals := 60 } (va_Pc [.ref (a 0), .int x] (rM G a C T K D w th)) (wr_Q G vwCl (some (.int 0)) (wM a C T K D w 1) A) 0 0 A := by
  refine q_open (cc := cX1_rank) (maxL := 2) (ret := (some .int)) (by decide) rfl (Nat.le_of_ble_eq_true rfl) ?_
  intro p e s m below meth c ls S hr hlk hB hl
  obtain ⟨hx, hb, hml, hown, hts⟩ := id S
  obtain ⟨hP, hK⟩ := hB
  have hin : ∀ w ∈ u_ws RX1 TX1 5, w ∈ wsX1_rank := fun w h => tb_cons w (hinX1 w h)
  have hS : va_S A s.heap s.heap [] := va_S.rf
  have hl : lv_has ls 2 [(0, .ref (a 0)), (1, .int x)] := hl
  refine lv_aload_n hx hb dX1_rank_0 rfl (lv_at hl 0 rfl) ?_
  refine lv_iload_n hx hb dX1_rank_1 rfl (lv_at hl 1 rfl) ?_
  refine wr_call (W.runV (As := [.int x]) (rest := []) S (hN) (cwV 1 hts (gX1_36 tb_cons) rfl rfl rfl (by decide +kernel) ⟨Nat.le_of_ble_eq_true rfl, Nat.le_of_ble_eq_true rfl⟩) (pM_V hP hK) rfl rfl hl.1 rfl (lv_room (Nat.le_of_ble_eq_true rfl)) dX1_rank_2 ⟨Nat.zero_le _, Nat.zero_le _⟩) hS (fun _ h => h) (fun H locs hP hS _ _ => ?_)
  have hP : va_P G vwCl (wM a C T K D w 1) H := hP
  refine W.eq (g2 := F0 m 5 ls [.int 1]) rfl ?_
  refine lv_if_eq (tgt := 12) hx hb dX1_rank_5 (by decide) (fun hc => absurd hc (by decide)) (fun _ => ?_)
  refine lv_iconst (v := 0) hx hb dX1_rank_8 (by decide) ?_
  refine lv_goto (tgt := 17) hx hb dX1_rank_9 (by decide) ?_
  exact W.iret hx hb hr (fun t ht _ => ⟨rfl, by rw [ht]; exact hP, hS.F ht⟩) hS.2.2 dX1_rank_17
set_option maxHeartbeats 4000000 in
set_option maxRecDepth 100000 in
theorem cm_rank (l : Launch) (G : va_G) (a : Nat → Nat) (C : Nat → ClassId) {A : Nat → Prop} (hD : ∀ T K D w th, va_D A (wM a C T K D w th)) (T : Nat → Bool) (K D : Nat → Int64) (w : Nat → Int32) (th : Int32) {j : Nat} (hj : j < 200) (hT : T j = true) : Met l yX1_rank wsX1_rank { frames := 2, cells := 0, slots := 0, locals := 60 } (va_Pc [.ref (a 0), .int (nI j)] (rM G a C T K D w th)) (wr_Q G vwCl (some (.int (nI (ft_cnt (fun k => T k && ft_sb K (K j) (nI j) k) 200)))) (wM a C T K D w 0) A) 0 0 A := by
  refine q_open (cc := cX1_rank) (maxL := 2) (ret := (some .int)) (by decide) rfl (Nat.le_of_ble_eq_true rfl) ?_
  intro p e s m below meth c ls S hr hlk hB hl
  obtain ⟨hx, hb, hml, hown, hts⟩ := id S
  obtain ⟨hP, hK⟩ := hB
  have hin : ∀ w ∈ u_ws RX1 TX1 5, w ∈ wsX1_rank := fun w h => tb_cons w (hinX1 w h)
  have hS : va_S A s.heap s.heap [] := va_S.rf
  have hl : lv_has ls 2 [(0, .ref (a 0)), (1, .int (nI j))] := hl
  refine lv_aload_n hx hb dX1_rank_0 rfl (lv_at hl 0 rfl) ?_
  refine lv_iload_n hx hb dX1_rank_1 rfl (lv_at hl 1 rfl) ?_
  refine wr_call (W.runV (As := [.int (nI j)]) (rest := []) S (cm_no_yes l G a C hD T K D w th hj hT) (cwV 1 hts (gX1_36 tb_cons) rfl rfl rfl (by decide +kernel) ⟨Nat.le_of_ble_eq_true rfl, Nat.le_of_ble_eq_true rfl⟩) (pM_V hP hK) rfl rfl hl.1 rfl (lv_room (Nat.le_of_ble_eq_true rfl)) dX1_rank_2 ⟨Nat.zero_le _, Nat.zero_le _⟩) hS (fun _ h => h) (fun H locs hP hS _ _ => ?_)
  have hP : va_P G vwCl (wM a C T K D w 0) H := hP
  refine W.eq (g2 := F0 m 5 ls [.int 0]) rfl ?_
  refine lv_if_eq (tgt := 12) hx hb dX1_rank_5 (by decide) (fun _ => ?_) (fun hc => absurd (rfl) hc)
  refine lv_aload_n hx hb dX1_rank_12 rfl (lv_at hl 0 rfl) ?_
  refine lv_iload_n hx hb dX1_rank_13 rfl (lv_at hl 1 rfl) ?_
  refine rd_call (W.runV (As := [.int (nI j)]) (rest := []) S (cm_place l G a C T K D w 0 hj) (cwV 1 hts (gX1_66 tb_cons) rfl rfl rfl (by decide +kernel) ⟨Nat.le_of_ble_eq_true rfl, Nat.le_of_ble_eq_true rfl⟩) (pM_V hP hK) rfl rfl hl.1 rfl (lv_room (Nat.le_of_ble_eq_true rfl)) dX1_rank_14 ⟨Nat.zero_le _, Nat.zero_le _⟩) ?_
  exact W.iret hx hb hr (fun t ht _ => ⟨rfl, by rw [ht]; exact hP, hS.F ht⟩) hS.2.2 dX1_rank_17
set_option maxHeartbeats 4000000 in
set_option maxRecDepth 100000 in
theorem cm_ahead_no (l : Launch) (G : va_G) (a : Nat → Nat) (C : Nat → ClassId) {A : Nat → Prop} (hD : ∀ T K D w th, va_D A (wM a C T K D w th)) (T : Nat → Bool) (K D : Nat → Int64) (w : Nat → Int32) (th : Int32) {x : Int32} (hN : Met l yX1_no wsX1_no rm0 (va_Pc [.ref (a 0), .int x] (rM G a C T K D w th)) (wr_Q G vwCl (some (.int 1)) (wM a C T K D w 1) A) 0 0 A) : Met l yX1_ahead wsX1_ahead { frames := 2, cells := 0, slots := 0, locals := 60 } (va_Pc [.ref (a 0), .int x] (rM G a C T K D w th)) (wr_Q G vwCl (some (.long 0)) (wM a C T K D w 1) A) 0 0 A := by
  refine q_open (cc := cX1_ahead) (maxL := 2) (ret := (some .long)) (by decide) rfl (Nat.le_of_ble_eq_true rfl) ?_
  intro p e s m below meth c ls S hr hlk hB hl
  obtain ⟨hx, hb, hml, hown, hts⟩ := id S
  obtain ⟨hP, hK⟩ := hB
  have hin : ∀ w ∈ u_ws RX1 TX1 5, w ∈ wsX1_ahead := fun w h => tb_cons w (hinX1 w h)
  have hS : va_S A s.heap s.heap [] := va_S.rf
  have hl : lv_has ls 2 [(0, .ref (a 0)), (1, .int x)] := hl
  refine lv_aload_n hx hb dX1_ahead_0 rfl (lv_at hl 0 rfl) ?_
  refine lv_iload_n hx hb dX1_ahead_1 rfl (lv_at hl 1 rfl) ?_
  refine wr_call (W.runV (As := [.int x]) (rest := []) S (hN) (cwV 1 hts (gX1_36 tb_cons) rfl rfl rfl (by decide +kernel) ⟨Nat.le_of_ble_eq_true rfl, Nat.le_of_ble_eq_true rfl⟩) (pM_V hP hK) rfl rfl hl.1 rfl (lv_room (Nat.le_of_ble_eq_true rfl)) dX1_ahead_2 ⟨Nat.zero_le _, Nat.zero_le _⟩) hS (fun _ h => h) (fun H locs hP hS _ _ => ?_)
  have hP : va_P G vwCl (wM a C T K D w 1) H := hP
  refine W.eq (g2 := F0 m 5 ls [.int 1]) rfl ?_
  refine lv_if_eq (tgt := 12) hx hb dX1_ahead_5 (by decide) (fun hc => absurd hc (by decide)) (fun _ => ?_)
  refine lv_lconst (v := 0) hx hb dX1_ahead_8 (by decide) ?_
  refine lv_goto (tgt := 17) hx hb dX1_ahead_9 (by decide) ?_
  exact W.lret hx hb hr (fun t ht _ => ⟨rfl, by rw [ht]; exact hP, hS.F ht⟩) hS.2.2 dX1_ahead_17
set_option maxHeartbeats 4000000 in
set_option maxRecDepth 100000 in
theorem cm_ahead (l : Launch) (G : va_G) (a : Nat → Nat) (C : Nat → ClassId) {A : Nat → Prop} (hD : ∀ T K D w th, va_D A (wM a C T K D w th)) (T : Nat → Bool) (K D : Nat → Int64) (w : Nat → Int32) (th : Int32) {j : Nat} (hj : j < 200) (hT : T j = true) : Met l yX1_ahead wsX1_ahead { frames := 2, cells := 0, slots := 0, locals := 60 } (va_Pc [.ref (a 0), .int (nI j)] (rM G a C T K D w th)) (wr_Q G vwCl (some (.long (ft_ld T K w (K j)))) (wM a C T K D w 0) A) 0 0 A := by
  refine q_open (cc := cX1_ahead) (maxL := 2) (ret := (some .long)) (by decide) rfl (Nat.le_of_ble_eq_true rfl) ?_
  intro p e s m below meth c ls S hr hlk hB hl
  obtain ⟨hx, hb, hml, hown, hts⟩ := id S
  obtain ⟨hP, hK⟩ := hB
  have hin : ∀ w ∈ u_ws RX1 TX1 5, w ∈ wsX1_ahead := fun w h => tb_cons w (hinX1 w h)
  have hS : va_S A s.heap s.heap [] := va_S.rf
  have hl : lv_has ls 2 [(0, .ref (a 0)), (1, .int (nI j))] := hl
  refine lv_aload_n hx hb dX1_ahead_0 rfl (lv_at hl 0 rfl) ?_
  refine lv_iload_n hx hb dX1_ahead_1 rfl (lv_at hl 1 rfl) ?_
  refine wr_call (W.runV (As := [.int (nI j)]) (rest := []) S (cm_no_yes l G a C hD T K D w th hj hT) (cwV 1 hts (gX1_36 tb_cons) rfl rfl rfl (by decide +kernel) ⟨Nat.le_of_ble_eq_true rfl, Nat.le_of_ble_eq_true rfl⟩) (pM_V hP hK) rfl rfl hl.1 rfl (lv_room (Nat.le_of_ble_eq_true rfl)) dX1_ahead_2 ⟨Nat.zero_le _, Nat.zero_le _⟩) hS (fun _ h => h) (fun H locs hP hS _ _ => ?_)
  have hP : va_P G vwCl (wM a C T K D w 0) H := hP
  refine W.eq (g2 := F0 m 5 ls [.int 0]) rfl ?_
  refine lv_if_eq (tgt := 12) hx hb dX1_ahead_5 (by decide) (fun _ => ?_) (fun hc => absurd (rfl) hc)
  refine lv_aload_n hx hb dX1_ahead_12 rfl (lv_at hl 0 rfl) ?_
  refine lv_iload_n hx hb dX1_ahead_13 rfl (lv_at hl 1 rfl) ?_
  refine rd_call (W.runV (As := [.int (nI j)]) (rest := []) S (cm_lead l G a C T K D w 0 hj) (cwV 1 hts (gX1_75 tb_cons) rfl rfl rfl (by decide +kernel) ⟨Nat.le_of_ble_eq_true rfl, Nat.le_of_ble_eq_true rfl⟩) (pM_V hP hK) rfl rfl hl.1 rfl (lv_room (Nat.le_of_ble_eq_true rfl)) dX1_ahead_14 ⟨Nat.zero_le _, Nat.zero_le _⟩) ?_
  exact W.lret hx hb hr (fun t ht _ => ⟨rfl, by rw [ht]; exact hP, hS.F ht⟩) hS.2.2 dX1_ahead_17
set_option maxHeartbeats 4000000 in
set_option maxRecDepth 100000 in
theorem cm_told_no (l : Launch) (G : va_G) (a : Nat → Nat) (C : Nat → ClassId) {A : Nat → Prop} (hD : ∀ T K D w th, va_D A (wM a C T K D w th)) (T : Nat → Bool) (K D : Nat → Int64) (w : Nat → Int32) (th : Int32) {x : Int32} (hN : Met l yX1_no wsX1_no rm0 (va_Pc [.ref (a 0), .int x] (rM G a C T K D w th)) (wr_Q G vwCl (some (.int 1)) (wM a C T K D w 1) A) 0 0 A) {y : Int32} : Met l yX1_told wsX1_told { frames := 1, cells := 0, slots := 0, locals := 30 } (va_Pc [.ref (a 0), .int x, .int y] (rM G a C T K D w th)) (wr_Q G vwCl (some (.long 0)) (wM a C T K D w 1) A) 0 0 A := by
  refine q_open (cc := cX1_told) (maxL := 3) (ret := (some .long)) (by decide) rfl (Nat.le_of_ble_eq_true rfl) ?_
  intro p e s m below meth c ls S hr hlk hB hl
  obtain ⟨hx, hb, hml, hown, hts⟩ := id S
  obtain ⟨hP, hK⟩ := hB
  have hin : ∀ w ∈ u_ws RX1 TX1 5, w ∈ wsX1_told := fun w h => tb_cons w (hinX1 w h)
  have hS : va_S A s.heap s.heap [] := va_S.rf
  have hl : lv_has ls 3 [(0, .ref (a 0)), (1, .int x), (2, .int y)] := hl
  refine lv_aload_n hx hb dX1_told_0 rfl (lv_at hl 0 rfl) ?_
  refine lv_iload_n hx hb dX1_told_1 rfl (lv_at hl 1 rfl) ?_
  refine wr_call (W.runV (As := [.int x]) (rest := []) S (hN) (cwV 1 hts (gX1_36 tb_cons) rfl rfl rfl (by decide +kernel) ⟨Nat.le_of_ble_eq_true rfl, Nat.le_of_ble_eq_true rfl⟩) (pM_V hP hK) rfl rfl hl.1 rfl (lv_room (Nat.le_of_ble_eq_true rfl)) dX1_told_2 ⟨Nat.zero_le _, Nat.zero_le _⟩) hS (fun _ h => h) (fun H locs hP hS _ _ => ?_)
  have hP : va_P G vwCl (wM a C T K D w 1) H := hP
  refine W.eq (g2 := F0 m 5 ls [.int 1]) rfl ?_
  refine lv_if_eq (tgt := 10) hx hb dX1_told_5 (by decide) (fun hc => absurd hc (by decide)) (fun _ => ?_)
  refine lv_lconst (v := 0) hx hb dX1_told_8 (by decide) ?_
  exact W.lret hx hb hr (fun t ht _ => ⟨rfl, by rw [ht]; exact hP, hS.F ht⟩) hS.2.2 dX1_told_9
set_option maxHeartbeats 4000000 in
set_option maxRecDepth 100000 in
theorem cm_told_what (l : Launch) (G : va_G) (a : Nat → Nat) (C : Nat → ClassId) {A : Nat → Prop} (hD : ∀ T K D w th, va_D A (wM a C T K D w th)) (T : Nat → Bool) (K D : Nat → Int64) (w : Nat → Int32) (th : Int32) {j : Nat} (hj : j < 200) (hT : T j = true) {y : Int32} (h : y < 0 ∨ 2 < y) : Met l yX1_told wsX1_told { frames := 1, cells := 0, slots := 0, locals := 30 } (va_Pc [.ref (a 0), .int (nI j), .int y] (rM G a C T K D w th)) (wr_Q G vwCl (some (.long 0)) (wM a C T K D w 2) A) 0 0 A := by
  refine q_open (cc := cX1_told) (maxL := 3) (ret := (some .long)) (by decide) rfl (Nat.le_of_ble_eq_true rfl) ?_
  intro p e s m below meth c ls S hr hlk hB hl
  obtain ⟨hx, hb, hml, hown, hts⟩ := id S
  obtain ⟨hP, hK⟩ := hB
  have hin : ∀ w ∈ u_ws RX1 TX1 5, w ∈ wsX1_told := fun w h => tb_cons w (hinX1 w h)
  have hS : va_S A s.heap s.heap [] := va_S.rf
  have hl : lv_has ls 3 [(0, .ref (a 0)), (1, .int (nI j)), (2, .int y)] := hl
  refine lv_aload_n hx hb dX1_told_0 rfl (lv_at hl 0 rfl) ?_
  refine lv_iload_n hx hb dX1_told_1 rfl (lv_at hl 1 rfl) ?_
  refine wr_call (W.runV (As := [.int (nI j)]) (rest := []) S (cm_no_yes l G a C hD T K D w th hj hT) (cwV 1 hts (gX1_36 tb_cons) rfl rfl rfl (by decide +kernel) ⟨Nat.le_of_ble_eq_true rfl, Nat.le_of_ble_eq_true rfl⟩) (pM_V hP hK) rfl rfl hl.1 rfl (lv_room (Nat.le_of_ble_eq_true rfl)) dX1_told_2 ⟨Nat.zero_le _, Nat.zero_le _⟩) hS (fun _ h => h) (fun H locs hP hS _ _ => ?_)
  have hP : va_P G vwCl (wM a C T K D w 0) H := hP
  refine W.eq (g2 := F0 m 5 ls [.int 0]) rfl ?_
  refine lv_if_eq (tgt := 10) hx hb dX1_told_5 (by decide) (fun _ => ?_) (fun hc => absurd (rfl) hc)
  refine lv_iload_n hx hb dX1_told_10 rfl (lv_at hl 2 rfl) ?_
  refine lv_if_lt (tgt := 19) hx hb dX1_told_11 (by decide) (fun hc => ?_) (fun hc => ?_)
  · refine lv_aload_n hx hb dX1_told_19 rfl (lv_at hl 0 rfl) ?_
    refine lv_iconst (v := 2) hx hb dX1_told_20 (by decide) ?_
    refine wr_call (W.runV (As := [.int 2]) (rest := []) S (cm_fail l G a C hD T K D w 0) (cwV 1 hts (gX1_52 tb_cons) rfl rfl rfl (by decide +kernel) ⟨Nat.le_of_ble_eq_true rfl, Nat.le_of_ble_eq_true rfl⟩) (pM_V hP hK) rfl rfl hl.1 rfl (lv_room (Nat.le_of_ble_eq_true rfl)) dX1_told_21 ⟨Nat.zero_le _, Nat.zero_le _⟩) hS (fun _ h => h) (fun H locs hP hS _ _ => ?_)
    have hP : va_P G vwCl (wM a C T K D w 2) H := hP
    refine W.eq (g2 := F0 m 24 ls [.int 0]) rfl ?_
    refine lv_i2l hx hb dX1_told_24 rfl ?_
    exact W.lret hx hb hr (fun t ht _ => ⟨rfl, by rw [ht]; exact hP, hS.F ht⟩) hS.2.2 dX1_told_25
  · refine lv_iload_n hx hb dX1_told_14 rfl (lv_at hl 2 rfl) ?_
    refine lv_iconst (v := 2) hx hb dX1_told_15 (by decide) ?_
    refine lv_icmp_le (tgt := 26) hx hb dX1_told_16 (by decide) (fun hc2 => absurd hc2 (Int32.not_le.mpr (h.resolve_left hc))) (fun _ => ?_)
    refine lv_aload_n hx hb dX1_told_19 rfl (lv_at hl 0 rfl) ?_
    refine lv_iconst (v := 2) hx hb dX1_told_20 (by decide) ?_
    refine wr_call (W.runV (As := [.int 2]) (rest := []) S (cm_fail l G a C hD T K D w 0) (cwV 1 hts (gX1_52 tb_cons) rfl rfl rfl (by decide +kernel) ⟨Nat.le_of_ble_eq_true rfl, Nat.le_of_ble_eq_true rfl⟩) (pM_V hP hK) rfl rfl hl.1 rfl (lv_room (Nat.le_of_ble_eq_true rfl)) dX1_told_21 ⟨Nat.zero_le _, Nat.zero_le _⟩) hS (fun _ h => h) (fun H locs hP hS _ _ => ?_)
    have hP : va_P G vwCl (wM a C T K D w 2) H := hP
    refine W.eq (g2 := F0 m 24 ls [.int 0]) rfl ?_
    refine lv_i2l hx hb dX1_told_24 rfl ?_
    exact W.lret hx hb hr (fun t ht _ => ⟨rfl, by rw [ht]; exact hP, hS.F ht⟩) hS.2.2 dX1_told_25
set_option maxHeartbeats 4000000 in
set_option maxRecDepth 100000 in
theorem cm_told_k (l : Launch) (G : va_G) (a : Nat → Nat) (C : Nat → ClassId) {A : Nat → Prop} (hD : ∀ T K D w th, va_D A (wM a C T K D w th)) (T : Nat → Bool) (K D : Nat → Int64) (w : Nat → Int32) (th : Int32) {j : Nat} (hj : j < 200) (hT : T j = true) : Met l yX1_told wsX1_told { frames := 1, cells := 0, slots := 0, locals := 30 } (va_Pc [.ref (a 0), .int (nI j), .int 0] (rM G a C T K D w th)) (wr_Q G vwCl (some (.long (K j))) (wM a C T K D w 0) A) 0 0 A := by
  refine q_open (cc := cX1_told) (maxL := 3) (ret := (some .long)) (by decide) rfl (Nat.le_of_ble_eq_true rfl) ?_
  intro p e s m below meth c ls S hr hlk hB hl
  obtain ⟨hx, hb, hml, hown, hts⟩ := id S
  obtain ⟨hP, hK⟩ := hB
  have hin : ∀ w ∈ u_ws RX1 TX1 5, w ∈ wsX1_told := fun w h => tb_cons w (hinX1 w h)
  have hS : va_S A s.heap s.heap [] := va_S.rf
  have hl : lv_has ls 3 [(0, .ref (a 0)), (1, .int (nI j)), (2, .int 0)] := hl
  refine lv_aload_n hx hb dX1_told_0 rfl (lv_at hl 0 rfl) ?_
  refine lv_iload_n hx hb dX1_told_1 rfl (lv_at hl 1 rfl) ?_
  refine wr_call (W.runV (As := [.int (nI j)]) (rest := []) S (cm_no_yes l G a C hD T K D w th hj hT) (cwV 1 hts (gX1_36 tb_cons) rfl rfl rfl (by decide +kernel) ⟨Nat.le_of_ble_eq_true rfl, Nat.le_of_ble_eq_true rfl⟩) (pM_V hP hK) rfl rfl hl.1 rfl (lv_room (Nat.le_of_ble_eq_true rfl)) dX1_told_2 ⟨Nat.zero_le _, Nat.zero_le _⟩) hS (fun _ h => h) (fun H locs hP hS _ _ => ?_)
  have hP : va_P G vwCl (wM a C T K D w 0) H := hP
  refine W.eq (g2 := F0 m 5 ls [.int 0]) rfl ?_
  refine lv_if_eq (tgt := 10) hx hb dX1_told_5 (by decide) (fun _ => ?_) (fun hc => absurd (rfl) hc)
  refine lv_iload_n hx hb dX1_told_10 rfl (lv_at hl 2 rfl) ?_
  refine lv_if_lt (tgt := 19) hx hb dX1_told_11 (by decide) (fun hc => absurd hc (by decide)) (fun _ => ?_)
  refine lv_iload_n hx hb dX1_told_14 rfl (lv_at hl 2 rfl) ?_
  refine lv_iconst (v := 2) hx hb dX1_told_15 (by decide) ?_
  refine lv_icmp_le (tgt := 26) hx hb dX1_told_16 (by decide) (fun _ => ?_) (fun hc => absurd (by decide) hc)
  refine lv_iload_n hx hb dX1_told_26 rfl (lv_at hl 2 rfl) ?_
  refine lv_if_ne (tgt := 39) hx hb dX1_told_27 (by decide) (fun hc => absurd (rfl) hc) (fun _ => ?_)
  refine lv_aload_n hx hb dX1_told_30 rfl (lv_at hl 0 rfl) ?_
  refine va_get (D := G) (ci := 1) (C := RX1) (T := TX1) (N := 5) hx hb hts hin hown hK hP 0 rfl rfl 1 (by decide) (hts _ (tb_cons _ w_fl_X1_13)) (fun _ h9 => h9) rfl dX1_told_31 ?_
  refine lv_iload_n hx hb dX1_told_34 rfl (lv_at hl 1 rfl) ?_
  refine q_lald hx hb hK hP 2 1 rfl rfl (j) rfl hj (by decide) dX1_told_35 ?_
  refine lv_goto (tgt := 60) hx hb dX1_told_36 (by decide) ?_
  exact W.lret hx hb hr (fun t ht _ => ⟨rfl, by rw [ht]; exact hP, hS.F ht⟩) hS.2.2 dX1_told_60
set_option maxHeartbeats 4000000 in
set_option maxRecDepth 100000 in
theorem cm_told_d (l : Launch) (G : va_G) (a : Nat → Nat) (C : Nat → ClassId) {A : Nat → Prop} (hD : ∀ T K D w th, va_D A (wM a C T K D w th)) (T : Nat → Bool) (K D : Nat → Int64) (w : Nat → Int32) (th : Int32) {j : Nat} (hj : j < 200) (hT : T j = true) : Met l yX1_told wsX1_told { frames := 1, cells := 0, slots := 0, locals := 30 } (va_Pc [.ref (a 0), .int (nI j), .int 1] (rM G a C T K D w th)) (wr_Q G vwCl (some (.long (D j))) (wM a C T K D w 0) A) 0 0 A := by
  refine q_open (cc := cX1_told) (maxL := 3) (ret := (some .long)) (by decide) rfl (Nat.le_of_ble_eq_true rfl) ?_
  intro p e s m below meth c ls S hr hlk hB hl
  obtain ⟨hx, hb, hml, hown, hts⟩ := id S
  obtain ⟨hP, hK⟩ := hB
  have hin : ∀ w ∈ u_ws RX1 TX1 5, w ∈ wsX1_told := fun w h => tb_cons w (hinX1 w h)
  have hS : va_S A s.heap s.heap [] := va_S.rf
  have hl : lv_has ls 3 [(0, .ref (a 0)), (1, .int (nI j)), (2, .int 1)] := hl
  refine lv_aload_n hx hb dX1_told_0 rfl (lv_at hl 0 rfl) ?_
  refine lv_iload_n hx hb dX1_told_1 rfl (lv_at hl 1 rfl) ?_
  refine wr_call (W.runV (As := [.int (nI j)]) (rest := []) S (cm_no_yes l G a C hD T K D w th hj hT) (cwV 1 hts (gX1_36 tb_cons) rfl rfl rfl (by decide +kernel) ⟨Nat.le_of_ble_eq_true rfl, Nat.le_of_ble_eq_true rfl⟩) (pM_V hP hK) rfl rfl hl.1 rfl (lv_room (Nat.le_of_ble_eq_true rfl)) dX1_told_2 ⟨Nat.zero_le _, Nat.zero_le _⟩) hS (fun _ h => h) (fun H locs hP hS _ _ => ?_)
  have hP : va_P G vwCl (wM a C T K D w 0) H := hP
  refine W.eq (g2 := F0 m 5 ls [.int 0]) rfl ?_
  refine lv_if_eq (tgt := 10) hx hb dX1_told_5 (by decide) (fun _ => ?_) (fun hc => absurd (rfl) hc)
  refine lv_iload_n hx hb dX1_told_10 rfl (lv_at hl 2 rfl) ?_
  refine lv_if_lt (tgt := 19) hx hb dX1_told_11 (by decide) (fun hc => absurd hc (by decide)) (fun _ => ?_)
  refine lv_iload_n hx hb dX1_told_14 rfl (lv_at hl 2 rfl) ?_
  refine lv_iconst (v := 2) hx hb dX1_told_15 (by decide) ?_
  refine lv_icmp_le (tgt := 26) hx hb dX1_told_16 (by decide) (fun _ => ?_) (fun hc => absurd (by decide) hc)
  refine lv_iload_n hx hb dX1_told_26 rfl (lv_at hl 2 rfl) ?_
  refine lv_if_ne (tgt := 39) hx hb dX1_told_27 (by decide) (fun _ => ?_) (fun hc => absurd hc (by decide))
  refine lv_iload_n hx hb dX1_told_39 rfl (lv_at hl 2 rfl) ?_
  refine lv_iconst (v := 1) hx hb dX1_told_40 (by decide) ?_
  refine lv_icmp_ne (tgt := 53) hx hb dX1_told_41 (by decide) (fun hc => absurd (rfl) hc) (fun _ => ?_)
  refine lv_aload_n hx hb dX1_told_44 rfl (lv_at hl 0 rfl) ?_
  refine va_get (D := G) (ci := 1) (C := RX1) (T := TX1) (N := 5) hx hb hts hin hown hK hP 0 rfl rfl 2 (by decide) (hts _ (tb_cons _ w_fl_X1_17)) (fun _ h9 => h9) rfl dX1_told_45 ?_
  refine lv_iload_n hx hb dX1_told_48 rfl (lv_at hl 1 rfl) ?_
  refine q_lald hx hb hK hP 3 2 rfl rfl (j) rfl hj (by decide) dX1_told_49 ?_
  refine lv_goto (tgt := 60) hx hb dX1_told_50 (by decide) ?_
  exact W.lret hx hb hr (fun t ht _ => ⟨rfl, by rw [ht]; exact hP, hS.F ht⟩) hS.2.2 dX1_told_60
set_option maxHeartbeats 4000000 in
set_option maxRecDepth 100000 in
theorem cm_told_w (l : Launch) (G : va_G) (a : Nat → Nat) (C : Nat → ClassId) {A : Nat → Prop} (hD : ∀ T K D w th, va_D A (wM a C T K D w th)) (T : Nat → Bool) (K D : Nat → Int64) (w : Nat → Int32) (th : Int32) {j : Nat} (hj : j < 200) (hT : T j = true) : Met l yX1_told wsX1_told { frames := 1, cells := 0, slots := 0, locals := 30 } (va_Pc [.ref (a 0), .int (nI j), .int 2] (rM G a C T K D w th)) (wr_Q G vwCl (some (.long ((w j).toInt64))) (wM a C T K D w 0) A) 0 0 A := by
  refine q_open (cc := cX1_told) (maxL := 3) (ret := (some .long)) (by decide) rfl (Nat.le_of_ble_eq_true rfl) ?_
  intro p e s m below meth c ls S hr hlk hB hl
  obtain ⟨hx, hb, hml, hown, hts⟩ := id S
  obtain ⟨hP, hK⟩ := hB
  have hin : ∀ w ∈ u_ws RX1 TX1 5, w ∈ wsX1_told := fun w h => tb_cons w (hinX1 w h)
  have hS : va_S A s.heap s.heap [] := va_S.rf
  have hl : lv_has ls 3 [(0, .ref (a 0)), (1, .int (nI j)), (2, .int 2)] := hl
  refine lv_aload_n hx hb dX1_told_0 rfl (lv_at hl 0 rfl) ?_
  refine lv_iload_n hx hb dX1_told_1 rfl (lv_at hl 1 rfl) ?_
  refine wr_call (W.runV (As := [.int (nI j)]) (rest := []) S (cm_no_yes l G a C hD T K D w th hj hT) (cwV 1 hts (gX1_36 tb_cons) rfl rfl rfl (by decide +kernel) ⟨Nat.le_of_ble_eq_true rfl, Nat.le_of_ble_eq_true rfl⟩) (pM_V hP hK) rfl rfl hl.1 rfl (lv_room (Nat.le_of_ble_eq_true rfl)) dX1_told_2 ⟨Nat.zero_le _, Nat.zero_le _⟩) hS (fun _ h => h) (fun H locs hP hS _ _ => ?_)
  have hP : va_P G vwCl (wM a C T K D w 0) H := hP
  refine W.eq (g2 := F0 m 5 ls [.int 0]) rfl ?_
  refine lv_if_eq (tgt := 10) hx hb dX1_told_5 (by decide) (fun _ => ?_) (fun hc => absurd (rfl) hc)
  refine lv_iload_n hx hb dX1_told_10 rfl (lv_at hl 2 rfl) ?_
  refine lv_if_lt (tgt := 19) hx hb dX1_told_11 (by decide) (fun hc => absurd hc (by decide)) (fun _ => ?_)
  refine lv_iload_n hx hb dX1_told_14 rfl (lv_at hl 2 rfl) ?_
  refine lv_iconst (v := 2) hx hb dX1_told_15 (by decide) ?_
  refine lv_icmp_le (tgt := 26) hx hb dX1_told_16 (by decide) (fun _ => ?_) (fun hc => absurd (by decide) hc)
  refine lv_iload_n hx hb dX1_told_26 rfl (lv_at hl 2 rfl) ?_
  refine lv_if_ne (tgt := 39) hx hb dX1_told_27 (by decide) (fun _ => ?_) (fun hc => absurd hc (by decide))
  refine lv_iload_n hx hb dX1_told_39 rfl (lv_at hl 2 rfl) ?_
  refine lv_iconst (v := 1) hx hb dX1_told_40 (by decide) ?_
  refine lv_icmp_ne (tgt := 53) hx hb dX1_told_41 (by decide) (fun _ => ?_) (fun hc => absurd hc (by decide))
  refine lv_aload_n hx hb dX1_told_53 rfl (lv_at hl 0 rfl) ?_
  refine va_get (D := G) (ci := 1) (C := RX1) (T := TX1) (N := 5) hx hb hts hin hown hK hP 0 rfl rfl 3 (by decide) (hts _ (tb_cons _ w_fl_X1_20)) (fun _ h9 => h9) rfl dX1_told_54 ?_
  refine lv_iload_n hx hb dX1_told_57 rfl (lv_at hl 1 rfl) ?_
  refine q_iald hx hb hK hP 4 3 rfl rfl (j) rfl hj (by decide) dX1_told_58 ?_
  refine lv_i2l hx hb dX1_told_59 rfl ?_
  exact W.lret hx hb hr (fun t ht _ => ⟨rfl, by rw [ht]; exact hP, hS.F ht⟩) hS.2.2 dX1_told_60
set_option maxHeartbeats 4000000 in
set_option maxRecDepth 100000 in
theorem cm_put_1 (l : Launch) (G : va_G) (a : Nat → Nat) (C : Nat → ClassId) {A : Nat → Prop} (hD : ∀ T K D w th, va_D A (wM a C T K D w th)) (T : Nat → Bool) (K D : Nat → Int64) (w : Nat → Int32) (th : Int32) {j : Int32} {key due : Int64} {x : Int32} (h : j < 0 ∨ 200 ≤ j) : Met l yX1_put wsX1_put rm0 (va_Pc [.ref (a 0), .int j, .long key, .long due, .int x] (rM G a C T K D w th)) (wr_Q G vwCl (some (.int 0)) (wM a C T K D w 1) A) 0 0 A := by
  refine q_open (cc := cX1_put) (maxL := 7) (ret := (some .int)) (by decide) rfl (Nat.le_of_ble_eq_true rfl) ?_
  intro p e s m below meth c ls S hr hlk hB hl
  obtain ⟨hx, hb, hml, hown, hts⟩ := id S
  obtain ⟨hP, hK⟩ := hB
  have hin : ∀ w ∈ u_ws RX1 TX1 5, w ∈ wsX1_put := fun w h => tb_cons w (hinX1 w h)
  have hS : va_S A s.heap s.heap [] := va_S.rf
  have hl : lv_has ls 7 [(0, .ref (a 0)), (1, .int j), (2, .long key), (4, .long due), (6, .int x)] := hl
  refine lv_aload_n hx hb dX1_put_0 rfl (lv_at hl 0 rfl) ?_
  refine lv_iload_n hx hb dX1_put_1 rfl (lv_at hl 1 rfl) ?_
  refine lv_if_lt (tgt := 42) hx hb dX1_put_2 (by decide) (fun hc => ?_) (fun hc => ?_)
  · refine lv_iconst (v := 1) hx hb dX1_put_42 (by decide) ?_
    refine lv_goto (tgt := 47) hx hb dX1_put_43 (by decide) ?_
    refine va_put (D := G) (ci := 1) (v := .int 1) (ty := .int) (C := RX1) (T := TX1) (N := 5) hx hb hts hin tyX1 tyX1_ok nmX1 hown hK hP (hD _ _ _ _ _) hS 0 rfl rfl 4 (by decide) (hts _ (tb_cons _ w_fl_X1_24)) (fun _ h9 => h9) rfl (by decide +kernel) rfl rfl (Nat.le_of_ble_eq_true rfl) dX1_put_47 (fun H locs hP _ hS => ?_)
    have hP : va_P G vwCl (wM a C T K D w 1) H := hP
    refine lv_aload_n hx hb dX1_put_50 rfl (lv_at hl 0 rfl) ?_
    refine va_get (D := G) (ci := 1) (C := RX1) (T := TX1) (N := 5) hx hb hts hin hown hK hP 0 rfl rfl 4 (by decide) (hts _ (tb_cons _ w_fl_X1_24)) (fun _ h9 => h9) rfl dX1_put_51 ?_
    refine lv_if_le (tgt := 59) hx hb dX1_put_54 (by decide) (fun hc => absurd hc (by decide)) (fun _ => ?_)
    refine lv_iconst (v := 0) hx hb dX1_put_57 (by decide) ?_
    exact W.iret hx hb hr (fun t ht _ => ⟨rfl, by rw [ht]; exact hP, hS.F ht⟩) hS.2.2 dX1_put_58
  · refine lv_iload_n hx hb dX1_put_5 rfl (lv_at hl 1 rfl) ?_
    refine lv_sipush (v := 200) hx hb dX1_put_6 (by decide) ?_
    refine lv_icmp_ge (tgt := 42) hx hb dX1_put_9 (by decide) (fun _ => ?_) (fun hc2 => absurd (h.resolve_left hc) hc2)
    refine lv_iconst (v := 1) hx hb dX1_put_42 (by decide) ?_
    refine lv_goto (tgt := 47) hx hb dX1_put_43 (by decide) ?_
    refine va_put (D := G) (ci := 1) (v := .int 1) (ty := .int) (C := RX1) (T := TX1) (N := 5) hx hb hts hin tyX1 tyX1_ok nmX1 hown hK hP (hD _ _ _ _ _) hS 0 rfl rfl 4 (by decide) (hts _ (tb_cons _ w_fl_X1_24)) (fun _ h9 => h9) rfl (by decide +kernel) rfl rfl (Nat.le_of_ble_eq_true rfl) dX1_put_47 (fun H locs hP _ hS => ?_)
    have hP : va_P G vwCl (wM a C T K D w 1) H := hP
    refine lv_aload_n hx hb dX1_put_50 rfl (lv_at hl 0 rfl) ?_
    refine va_get (D := G) (ci := 1) (C := RX1) (T := TX1) (N := 5) hx hb hts hin hown hK hP 0 rfl rfl 4 (by decide) (hts _ (tb_cons _ w_fl_X1_24)) (fun _ h9 => h9) rfl dX1_put_51 ?_
    refine lv_if_le (tgt := 59) hx hb dX1_put_54 (by decide) (fun hc => absurd hc (by decide)) (fun _ => ?_)
    refine lv_iconst (v := 0) hx hb dX1_put_57 (by decide) ?_
    exact W.iret hx hb hr (fun t ht _ => ⟨rfl, by rw [ht]; exact hP, hS.F ht⟩) hS.2.2 dX1_put_58
set_option maxHeartbeats 4000000 in
set_option maxRecDepth 100000 in
theorem cm_put_2 (l : Launch) (G : va_G) (a : Nat → Nat) (C : Nat → ClassId) {A : Nat → Prop} (hD : ∀ T K D w th, va_D A (wM a C T K D w th)) (T : Nat → Bool) (K D : Nat → Int64) (w : Nat → Int32) (th : Int32) {j : Nat} (hj : j < 200) {key due : Int64} {x : Int32} (h : key < (-1099511627776) ∨ 1099511627776 < key) : Met l yX1_put wsX1_put rm0 (va_Pc [.ref (a 0), .int (nI j), .long key, .long due, .int x] (rM G a C T K D w th)) (wr_Q G vwCl (some (.int 0)) (wM a C T K D w 1) A) 0 0 A := by
  refine q_open (cc := cX1_put) (maxL := 7) (ret := (some .int)) (by decide) rfl (Nat.le_of_ble_eq_true rfl) ?_
  intro p e s m below meth c ls S hr hlk hB hl
  obtain ⟨hx, hb, hml, hown, hts⟩ := id S
  obtain ⟨hP, hK⟩ := hB
  have hin : ∀ w ∈ u_ws RX1 TX1 5, w ∈ wsX1_put := fun w h => tb_cons w (hinX1 w h)
  have hS : va_S A s.heap s.heap [] := va_S.rf
  have hl : lv_has ls 7 [(0, .ref (a 0)), (1, .int (nI j)), (2, .long key), (4, .long due), (6, .int x)] := hl
  refine lv_aload_n hx hb dX1_put_0 rfl (lv_at hl 0 rfl) ?_
  refine lv_iload_n hx hb dX1_put_1 rfl (lv_at hl 1 rfl) ?_
  refine lv_if_lt (tgt := 42) hx hb dX1_put_2 (by decide) (fun hc => absurd hc (nI_pos (by omega))) (fun _ => ?_)
  refine lv_iload_n hx hb dX1_put_5 rfl (lv_at hl 1 rfl) ?_
  refine lv_sipush (v := 200) hx hb dX1_put_6 (by decide) ?_
  refine lv_icmp_ge (tgt := 42) hx hb dX1_put_9 (by decide) (fun hc => absurd hc (nI_ge (b := 200) hj (by decide))) (fun _ => ?_)
  refine lv_lload_n hx hb dX1_put_12 rfl (lv_at hl 2 rfl) ?_
  refine lv_ldc2 (v := (-1099511627776)) hx hb hown (hts _ (tb_cons _ w_k_X1_28)) dX1_put_13 ?_
  refine W.lcmp hx hb dX1_put_16 ?_
  refine lv_if_lt (tgt := 42) hx hb dX1_put_17 (by decide) (fun hc => ?_) (fun hc => ?_)
  · refine lv_iconst (v := 1) hx hb dX1_put_42 (by decide) ?_
    refine lv_goto (tgt := 47) hx hb dX1_put_43 (by decide) ?_
    refine va_put (D := G) (ci := 1) (v := .int 1) (ty := .int) (C := RX1) (T := TX1) (N := 5) hx hb hts hin tyX1 tyX1_ok nmX1 hown hK hP (hD _ _ _ _ _) hS 0 rfl rfl 4 (by decide) (hts _ (tb_cons _ w_fl_X1_24)) (fun _ h9 => h9) rfl (by decide +kernel) rfl rfl (Nat.le_of_ble_eq_true rfl) dX1_put_47 (fun H locs hP _ hS => ?_)
    have hP : va_P G vwCl (wM a C T K D w 1) H := hP
    refine lv_aload_n hx hb dX1_put_50 rfl (lv_at hl 0 rfl) ?_
    refine va_get (D := G) (ci := 1) (C := RX1) (T := TX1) (N := 5) hx hb hts hin hown hK hP 0 rfl rfl 4 (by decide) (hts _ (tb_cons _ w_fl_X1_24)) (fun _ h9 => h9) rfl dX1_put_51 ?_
    refine lv_if_le (tgt := 59) hx hb dX1_put_54 (by decide) (fun hc => absurd hc (by decide)) (fun _ => ?_)
    refine lv_iconst (v := 0) hx hb dX1_put_57 (by decide) ?_
    exact W.iret hx hb hr (fun t ht _ => ⟨rfl, by rw [ht]; exact hP, hS.F ht⟩) hS.2.2 dX1_put_58
  · refine lv_lload_n hx hb dX1_put_20 rfl (lv_at hl 2 rfl) ?_
    refine lv_ldc2 (v := 1099511627776) hx hb hown (hts _ (tb_cons _ w_k_X1_30)) dX1_put_21 ?_
    refine W.lcmp hx hb dX1_put_24 ?_
    refine lv_if_gt (tgt := 42) hx hb dX1_put_25 (by decide) (fun _ => ?_) (fun hc2 => absurd ((lg_cmp_gt _ _).mpr (h.resolve_left (fun q => hc ((lg_cmp_lt _ _).mpr q)))) hc2)
    refine lv_iconst (v := 1) hx hb dX1_put_42 (by decide) ?_
    refine lv_goto (tgt := 47) hx hb dX1_put_43 (by decide) ?_
    refine va_put (D := G) (ci := 1) (v := .int 1) (ty := .int) (C := RX1) (T := TX1) (N := 5) hx hb hts hin tyX1 tyX1_ok nmX1 hown hK hP (hD _ _ _ _ _) hS 0 rfl rfl 4 (by decide) (hts _ (tb_cons _ w_fl_X1_24)) (fun _ h9 => h9) rfl (by decide +kernel) rfl rfl (Nat.le_of_ble_eq_true rfl) dX1_put_47 (fun H locs hP _ hS => ?_)
    have hP : va_P G vwCl (wM a C T K D w 1) H := hP
    refine lv_aload_n hx hb dX1_put_50 rfl (lv_at hl 0 rfl) ?_
    refine va_get (D := G) (ci := 1) (C := RX1) (T := TX1) (N := 5) hx hb hts hin hown hK hP 0 rfl rfl 4 (by decide) (hts _ (tb_cons _ w_fl_X1_24)) (fun _ h9 => h9) rfl dX1_put_51 ?_
    refine lv_if_le (tgt := 59) hx hb dX1_put_54 (by decide) (fun hc => absurd hc (by decide)) (fun _ => ?_)
    refine lv_iconst (v := 0) hx hb dX1_put_57 (by decide) ?_
    exact W.iret hx hb hr (fun t ht _ => ⟨rfl, by rw [ht]; exact hP, hS.F ht⟩) hS.2.2 dX1_put_58
set_option maxHeartbeats 4000000 in
set_option maxRecDepth 100000 in
theorem cm_put_3 (l : Launch) (G : va_G) (a : Nat → Nat) (C : Nat → ClassId) {A : Nat → Prop} (hD : ∀ T K D w th, va_D A (wM a C T K D w th)) (T : Nat → Bool) (K D : Nat → Int64) (w : Nat → Int32) (th : Int32) {j : Nat} (hj : j < 200) {key due : Int64} {x : Int32} (hk : ¬ key < (-1099511627776) ∧ ¬ 1099511627776 < key) (h : x < 1) : Met l yX1_put wsX1_put rm0 (va_Pc [.ref (a 0), .int (nI j), .long key, .long due, .int x] (rM G a C T K D w th)) (wr_Q G vwCl (some (.int 0)) (wM a C T K D w 1) A) 0 0 A := by
  refine q_open (cc := cX1_put) (maxL := 7) (ret := (some .int)) (by decide) rfl (Nat.le_of_ble_eq_true rfl) ?_
  intro p e s m below meth c ls S hr hlk hB hl
  obtain ⟨hx, hb, hml, hown, hts⟩ := id S
  obtain ⟨hP, hK⟩ := hB
  have hin : ∀ w ∈ u_ws RX1 TX1 5, w ∈ wsX1_put := fun w h => tb_cons w (hinX1 w h)
  have hS : va_S A s.heap s.heap [] := va_S.rf
  have hl : lv_has ls 7 [(0, .ref (a 0)), (1, .int (nI j)), (2, .long key), (4, .long due), (6, .int x)] := hl
  refine lv_aload_n hx hb dX1_put_0 rfl (lv_at hl 0 rfl) ?_
  refine lv_iload_n hx hb dX1_put_1 rfl (lv_at hl 1 rfl) ?_
  refine lv_if_lt (tgt := 42) hx hb dX1_put_2 (by decide) (fun hc => absurd hc (nI_pos (by omega))) (fun _ => ?_)
  refine lv_iload_n hx hb dX1_put_5 rfl (lv_at hl 1 rfl) ?_
  refine lv_sipush (v := 200) hx hb dX1_put_6 (by decide) ?_
  refine lv_icmp_ge (tgt := 42) hx hb dX1_put_9 (by decide) (fun hc => absurd hc (nI_ge (b := 200) hj (by decide))) (fun _ => ?_)
  refine lv_lload_n hx hb dX1_put_12 rfl (lv_at hl 2 rfl) ?_
  refine lv_ldc2 (v := (-1099511627776)) hx hb hown (hts _ (tb_cons _ w_k_X1_28)) dX1_put_13 ?_
  refine W.lcmp hx hb dX1_put_16 ?_
  refine lv_if_lt (tgt := 42) hx hb dX1_put_17 (by decide) (fun hc => absurd hc (fun q => hk.1 ((lg_cmp_lt _ _).mp q))) (fun _ => ?_)
  refine lv_lload_n hx hb dX1_put_20 rfl (lv_at hl 2 rfl) ?_
  refine lv_ldc2 (v := 1099511627776) hx hb hown (hts _ (tb_cons _ w_k_X1_30)) dX1_put_21 ?_
  refine W.lcmp hx hb dX1_put_24 ?_
  refine lv_if_gt (tgt := 42) hx hb dX1_put_25 (by decide) (fun hc => absurd hc (fun q => hk.2 ((lg_cmp_gt _ _).mp q))) (fun _ => ?_)
  refine lv_iload hx hb dX1_put_28 (lv_at hl 4 rfl) ?_
  refine lv_iconst (v := 1) hx hb dX1_put_30 (by decide) ?_
  refine lv_icmp_lt (tgt := 42) hx hb dX1_put_31 (by decide) (fun _ => ?_) (fun hc => absurd (h) hc)
  refine lv_iconst (v := 1) hx hb dX1_put_42 (by decide) ?_
  refine lv_goto (tgt := 47) hx hb dX1_put_43 (by decide) ?_
  refine va_put (D := G) (ci := 1) (v := .int 1) (ty := .int) (C := RX1) (T := TX1) (N := 5) hx hb hts hin tyX1 tyX1_ok nmX1 hown hK hP (hD _ _ _ _ _) hS 0 rfl rfl 4 (by decide) (hts _ (tb_cons _ w_fl_X1_24)) (fun _ h9 => h9) rfl (by decide +kernel) rfl rfl (Nat.le_of_ble_eq_true rfl) dX1_put_47 (fun H locs hP _ hS => ?_)
  have hP : va_P G vwCl (wM a C T K D w 1) H := hP
  refine lv_aload_n hx hb dX1_put_50 rfl (lv_at hl 0 rfl) ?_
  refine va_get (D := G) (ci := 1) (C := RX1) (T := TX1) (N := 5) hx hb hts hin hown hK hP 0 rfl rfl 4 (by decide) (hts _ (tb_cons _ w_fl_X1_24)) (fun _ h9 => h9) rfl dX1_put_51 ?_
  refine lv_if_le (tgt := 59) hx hb dX1_put_54 (by decide) (fun hc => absurd hc (by decide)) (fun _ => ?_)
  refine lv_iconst (v := 0) hx hb dX1_put_57 (by decide) ?_
  exact W.iret hx hb hr (fun t ht _ => ⟨rfl, by rw [ht]; exact hP, hS.F ht⟩) hS.2.2 dX1_put_58
set_option maxHeartbeats 4000000 in
set_option maxRecDepth 100000 in
theorem cm_put_4 (l : Launch) (G : va_G) (a : Nat → Nat) (C : Nat → ClassId) {A : Nat → Prop} (hD : ∀ T K D w th, va_D A (wM a C T K D w th)) (T : Nat → Bool) (K D : Nat → Int64) (w : Nat → Int32) (th : Int32) {j : Nat} (hj : j < 200) {key due : Int64} {x : Int32} (hk : ¬ key < (-1099511627776) ∧ ¬ 1099511627776 < key) (h1 : ¬ x < 1) (h : 1000 < x) : Met l yX1_put wsX1_put rm0 (va_Pc [.ref (a 0), .int (nI j), .long key, .long due, .int x] (rM G a C T K D w th)) (wr_Q G vwCl (some (.int 0)) (wM a C T K D w 1) A) 0 0 A := by
  refine q_open (cc := cX1_put) (maxL := 7) (ret := (some .int)) (by decide) rfl (Nat.le_of_ble_eq_true rfl) ?_
  intro p e s m below meth c ls S hr hlk hB hl
  obtain ⟨hx, hb, hml, hown, hts⟩ := id S
  obtain ⟨hP, hK⟩ := hB
  have hin : ∀ w ∈ u_ws RX1 TX1 5, w ∈ wsX1_put := fun w h => tb_cons w (hinX1 w h)
  have hS : va_S A s.heap s.heap [] := va_S.rf
  have hl : lv_has ls 7 [(0, .ref (a 0)), (1, .int (nI j)), (2, .long key), (4, .long due), (6, .int x)] := hl
  refine lv_aload_n hx hb dX1_put_0 rfl (lv_at hl 0 rfl) ?_
  refine lv_iload_n hx hb dX1_put_1 rfl (lv_at hl 1 rfl) ?_
  refine lv_if_lt (tgt := 42) hx hb dX1_put_2 (by decide) (fun hc => absurd hc (nI_pos (by omega))) (fun _ => ?_)
  refine lv_iload_n hx hb dX1_put_5 rfl (lv_at hl 1 rfl) ?_
  refine lv_sipush (v := 200) hx hb dX1_put_6 (by decide) ?_
  refine lv_icmp_ge (tgt := 42) hx hb dX1_put_9 (by decide) (fun hc => absurd hc (nI_ge (b := 200) hj (by decide))) (fun _ => ?_)
  refine lv_lload_n hx hb dX1_put_12 rfl (lv_at hl 2 rfl) ?_
  refine lv_ldc2 (v := (-1099511627776)) hx hb hown (hts _ (tb_cons _ w_k_X1_28)) dX1_put_13 ?_
  refine W.lcmp hx hb dX1_put_16 ?_
  refine lv_if_lt (tgt := 42) hx hb dX1_put_17 (by decide) (fun hc => absurd hc (fun q => hk.1 ((lg_cmp_lt _ _).mp q))) (fun _ => ?_)
  refine lv_lload_n hx hb dX1_put_20 rfl (lv_at hl 2 rfl) ?_
  refine lv_ldc2 (v := 1099511627776) hx hb hown (hts _ (tb_cons _ w_k_X1_30)) dX1_put_21 ?_
  refine W.lcmp hx hb dX1_put_24 ?_
  refine lv_if_gt (tgt := 42) hx hb dX1_put_25 (by decide) (fun hc => absurd hc (fun q => hk.2 ((lg_cmp_gt _ _).mp q))) (fun _ => ?_)
  refine lv_iload hx hb dX1_put_28 (lv_at hl 4 rfl) ?_
  refine lv_iconst (v := 1) hx hb dX1_put_30 (by decide) ?_
  refine lv_icmp_lt (tgt := 42) hx hb dX1_put_31 (by decide) (fun hc => absurd hc (h1)) (fun _ => ?_)
  refine lv_iload hx hb dX1_put_34 (lv_at hl 4 rfl) ?_
  refine lv_sipush (v := 1000) hx hb dX1_put_36 (by decide) ?_
  refine lv_icmp_le (tgt := 46) hx hb dX1_put_39 (by decide) (fun hc => absurd hc (Int32.not_le.mpr h)) (fun _ => ?_)
  refine lv_iconst (v := 1) hx hb dX1_put_42 (by decide) ?_
  refine lv_goto (tgt := 47) hx hb dX1_put_43 (by decide) ?_
  refine va_put (D := G) (ci := 1) (v := .int 1) (ty := .int) (C := RX1) (T := TX1) (N := 5) hx hb hts hin tyX1 tyX1_ok nmX1 hown hK hP (hD _ _ _ _ _) hS 0 rfl rfl 4 (by decide) (hts _ (tb_cons _ w_fl_X1_24)) (fun _ h9 => h9) rfl (by decide +kernel) rfl rfl (Nat.le_of_ble_eq_true rfl) dX1_put_47 (fun H locs hP _ hS => ?_)
  have hP : va_P G vwCl (wM a C T K D w 1) H := hP
  refine lv_aload_n hx hb dX1_put_50 rfl (lv_at hl 0 rfl) ?_
  refine va_get (D := G) (ci := 1) (C := RX1) (T := TX1) (N := 5) hx hb hts hin hown hK hP 0 rfl rfl 4 (by decide) (hts _ (tb_cons _ w_fl_X1_24)) (fun _ h9 => h9) rfl dX1_put_51 ?_
  refine lv_if_le (tgt := 59) hx hb dX1_put_54 (by decide) (fun hc => absurd hc (by decide)) (fun _ => ?_)
  refine lv_iconst (v := 0) hx hb dX1_put_57 (by decide) ?_
  exact W.iret hx hb hr (fun t ht _ => ⟨rfl, by rw [ht]; exact hP, hS.F ht⟩) hS.2.2 dX1_put_58
set_option maxHeartbeats 4000000 in
set_option maxRecDepth 100000 in
theorem cm_put (l : Launch) (G : va_G) (a : Nat → Nat) (C : Nat → ClassId) {A : Nat → Prop} (hD : ∀ T K D w th, va_D A (wM a C T K D w th)) (T : Nat → Bool) (K D : Nat → Int64) (w : Nat → Int32) (th : Int32) {j : Nat} (hj : j < 200) {key due : Int64} {x : Int32} (hk : ¬ key < (-1099511627776) ∧ ¬ 1099511627776 < key) (h1 : ¬ x < 1) (h2 : x ≤ 1000) : Met l yX1_put wsX1_put { frames := 1, cells := 0, slots := 0, locals := 30 } (va_Pc [.ref (a 0), .int (nI j), .long key, .long due, .int x] (rM G a C T K D w th)) (wr_Q G vwCl (some (.int (nI (ft_cnt (fun i => if i = j then true else T i) 200)))) (wM a C (fun i => if i = j then true else T i) (vp_updL K j key) (vp_updL D j due) (upd w j x) 0) A) 0 0 A := by
  refine q_open (cc := cX1_put) (maxL := 7) (ret := (some .int)) (by decide) rfl (Nat.le_of_ble_eq_true rfl) ?_
  intro p e s m below meth c ls S hr hlk hB hl
  obtain ⟨hx, hb, hml, hown, hts⟩ := id S
  obtain ⟨hP, hK⟩ := hB
  have hin : ∀ w ∈ u_ws RX1 TX1 5, w ∈ wsX1_put := fun w h => tb_cons w (hinX1 w h)
  have hS : va_S A s.heap s.heap [] := va_S.rf
  have hl : lv_has ls 7 [(0, .ref (a 0)), (1, .int (nI j)), (2, .long key), (4, .long due), (6, .int x)] := hl
  refine lv_aload_n hx hb dX1_put_0 rfl (lv_at hl 0 rfl) ?_
  refine lv_iload_n hx hb dX1_put_1 rfl (lv_at hl 1 rfl) ?_
  refine lv_if_lt (tgt := 42) hx hb dX1_put_2 (by decide) (fun hc => absurd hc (nI_pos (by omega))) (fun _ => ?_)
  refine lv_iload_n hx hb dX1_put_5 rfl (lv_at hl 1 rfl) ?_
  refine lv_sipush (v := 200) hx hb dX1_put_6 (by decide) ?_
  refine lv_icmp_ge (tgt := 42) hx hb dX1_put_9 (by decide) (fun hc => absurd hc (nI_ge (b := 200) hj (by decide))) (fun _ => ?_)
  refine lv_lload_n hx hb dX1_put_12 rfl (lv_at hl 2 rfl) ?_
  refine lv_ldc2 (v := (-1099511627776)) hx hb hown (hts _ (tb_cons _ w_k_X1_28)) dX1_put_13 ?_
  refine W.lcmp hx hb dX1_put_16 ?_
  refine lv_if_lt (tgt := 42) hx hb dX1_put_17 (by decide) (fun hc => absurd hc (fun q => hk.1 ((lg_cmp_lt _ _).mp q))) (fun _ => ?_)
  refine lv_lload_n hx hb dX1_put_20 rfl (lv_at hl 2 rfl) ?_
  refine lv_ldc2 (v := 1099511627776) hx hb hown (hts _ (tb_cons _ w_k_X1_30)) dX1_put_21 ?_
  refine W.lcmp hx hb dX1_put_24 ?_
  refine lv_if_gt (tgt := 42) hx hb dX1_put_25 (by decide) (fun hc => absurd hc (fun q => hk.2 ((lg_cmp_gt _ _).mp q))) (fun _ => ?_)
  refine lv_iload hx hb dX1_put_28 (lv_at hl 4 rfl) ?_
  refine lv_iconst (v := 1) hx hb dX1_put_30 (by decide) ?_
  refine lv_icmp_lt (tgt := 42) hx hb dX1_put_31 (by decide) (fun hc => absurd hc (h1)) (fun _ => ?_)
  refine lv_iload hx hb dX1_put_34 (lv_at hl 4 rfl) ?_
  refine lv_sipush (v := 1000) hx hb dX1_put_36 (by decide) ?_
  refine lv_icmp_le (tgt := 46) hx hb dX1_put_39 (by decide) (fun _ => ?_) (fun hc => absurd (h2) hc)
  refine lv_iconst (v := 0) hx hb dX1_put_46 (by decide) ?_
  refine va_put (D := G) (ci := 1) (v := .int 0) (ty := .int) (C := RX1) (T := TX1) (N := 5) hx hb hts hin tyX1 tyX1_ok nmX1 hown hK hP (hD _ _ _ _ _) hS 0 rfl rfl 4 (by decide) (hts _ (tb_cons _ w_fl_X1_24)) (fun _ h9 => h9) rfl (by decide +kernel) rfl rfl (Nat.le_of_ble_eq_true rfl) dX1_put_47 (fun H locs hP _ hS => ?_)
  have hP : va_P G vwCl (wM a C T K D w 0) H := hP
  refine lv_aload_n hx hb dX1_put_50 rfl (lv_at hl 0 rfl) ?_
  refine va_get (D := G) (ci := 1) (C := RX1) (T := TX1) (N := 5) hx hb hts hin hown hK hP 0 rfl rfl 4 (by decide) (hts _ (tb_cons _ w_fl_X1_24)) (fun _ h9 => h9) rfl dX1_put_51 ?_
  refine lv_if_le (tgt := 59) hx hb dX1_put_54 (by decide) (fun _ => ?_) (fun hc => absurd (by decide) hc)
  refine lv_aload_n hx hb dX1_put_59 rfl (lv_at hl 0 rfl) ?_
  refine va_get (D := G) (ci := 1) (C := RX1) (T := TX1) (N := 5) hx hb hts hin hown hK hP 0 rfl rfl 0 (by decide) (hts _ (tb_cons _ w_fl_X1_9)) (fun _ h9 => h9) rfl dX1_put_60 ?_
  refine lv_iload_n hx hb dX1_put_63 rfl (lv_at hl 1 rfl) ?_
  refine lv_iconst (v := 1) hx hb dX1_put_64 (by decide) ?_
  refine q_zast hx hb hK hP (hD _ _ _ _ _) hS 1 0 rfl rfl (j) rfl hj (by decide) rfl dX1_put_65 (fun H locs hP hS => ?_)
  rw [ft_tb_up1] at hP
  have hP : va_P G vwCl (wM a C (fun i9 => if i9 = j then true else T i9) K D w 0) H := hP
  refine lv_aload_n hx hb dX1_put_66 rfl (lv_at hl 0 rfl) ?_
  refine va_get (D := G) (ci := 1) (C := RX1) (T := TX1) (N := 5) hx hb hts hin hown hK hP 0 rfl rfl 1 (by decide) (hts _ (tb_cons _ w_fl_X1_13)) (fun _ h9 => h9) rfl dX1_put_67 ?_
  refine lv_iload_n hx hb dX1_put_70 rfl (lv_at hl 1 rfl) ?_
  refine lv_lload_n hx hb dX1_put_71 rfl (lv_at hl 2 rfl) ?_
  refine q_last hx hb hK hP (hD _ _ _ _ _) hS 2 1 rfl rfl (j) rfl hj (by decide) dX1_put_72 (fun H locs hP hS => ?_)
  have hP : va_P G vwCl (wM a C (fun i9 => if i9 = j then true else T i9) (vp_updL K j key) D w 0) H := hP
  refine lv_aload_n hx hb dX1_put_73 rfl (lv_at hl 0 rfl) ?_
  refine va_get (D := G) (ci := 1) (C := RX1) (T := TX1) (N := 5) hx hb hts hin hown hK hP 0 rfl rfl 2 (by decide) (hts _ (tb_cons _ w_fl_X1_17)) (fun _ h9 => h9) rfl dX1_put_74 ?_
  refine lv_iload_n hx hb dX1_put_77 rfl (lv_at hl 1 rfl) ?_
  refine lv_lload hx hb dX1_put_78 (lv_at hl 3 rfl) ?_
  refine q_last hx hb hK hP (hD _ _ _ _ _) hS 3 2 rfl rfl (j) rfl hj (by decide) dX1_put_80 (fun H locs hP hS => ?_)
  have hP : va_P G vwCl (wM a C (fun i9 => if i9 = j then true else T i9) (vp_updL K j key) (vp_updL D j due) w 0) H := hP
  refine lv_aload_n hx hb dX1_put_81 rfl (lv_at hl 0 rfl) ?_
  refine va_get (D := G) (ci := 1) (C := RX1) (T := TX1) (N := 5) hx hb hts hin hown hK hP 0 rfl rfl 3 (by decide) (hts _ (tb_cons _ w_fl_X1_20)) (fun _ h9 => h9) rfl dX1_put_82 ?_
  refine lv_iload_n hx hb dX1_put_85 rfl (lv_at hl 1 rfl) ?_
  refine lv_iload hx hb dX1_put_86 (lv_at hl 4 rfl) ?_
  refine q_iast hx hb hK hP (hD _ _ _ _ _) hS 4 3 rfl rfl (j) rfl hj (by decide) dX1_put_88 (fun H locs hP hS => ?_)
  have hP : va_P G vwCl (wM a C (fun i9 => if i9 = j then true else T i9) (vp_updL K j key) (vp_updL D j due) (upd w j x) 0) H := hP
  refine lv_aload_n hx hb dX1_put_89 rfl (lv_at hl 0 rfl) ?_
  refine rd_call (W.runV (As := []) (rest := []) S (cm_many l G a C (fun i => if i = j then true else T i) (vp_updL K j key) (vp_updL D j due) (upd w j x) 0) (cwV 0 hts (gX1_32 tb_cons) rfl rfl rfl (by decide +kernel) ⟨Nat.le_of_ble_eq_true rfl, Nat.le_of_ble_eq_true rfl⟩) (pM_V hP hK) rfl rfl hl.1 rfl (lv_room (Nat.le_of_ble_eq_true rfl)) dX1_put_90 ⟨Nat.zero_le _, Nat.zero_le _⟩) ?_
  exact W.iret hx hb hr (fun t ht _ => ⟨rfl, by rw [ht]; exact hP, hS.F ht⟩) hS.2.2 dX1_put_93
set_option maxHeartbeats 4000000 in
set_option maxRecDepth 100000 in
theorem cm_at (l : Launch) (G : va_G) (a : Nat → Nat) (C : Nat → ClassId) {A : Nat → Prop} (hD : ∀ T K D w th, va_D A (wM a C T K D w th)) (T : Nat → Bool) (K D : Nat → Int64) (w : Nat → Int32) (th : Int32) {x : Int32} : Met l yX1_at wsX1_at { frames := 2, cells := 0, slots := 0, locals := 60 } (va_Pc [.ref (a 0), .int x] (rM G a C T K D w th)) (wr_Q G vwCl (some (.int (if (ft_fb (ft_atP T K x) 200 0) < 200 then nI (ft_fb (ft_atP T K x) 200 0) else 0))) (wM a C T K D w (if (ft_fb (ft_atP T K x) 200 0) < 200 then 0 else 1)) A) 0 0 A := by
  refine q_open (cc := cX1_at) (maxL := 3) (ret := (some .int)) (by decide) rfl (Nat.le_of_ble_eq_true rfl) ?_
  intro p e s m below meth c ls S hr hlk hB hl
  obtain ⟨hx, hb, hml, hown, hts⟩ := id S
  obtain ⟨hP, hK⟩ := hB
  have hin : ∀ w ∈ u_ws RX1 TX1 5, w ∈ wsX1_at := fun w h => tb_cons w (hinX1 w h)
  have hS : va_S A s.heap s.heap [] := va_S.rf
  have hl : lv_has ls 3 [(0, .ref (a 0)), (1, .int x)] := hl
  refine lv_aload_n hx hb dX1_at_0 rfl (lv_at hl 0 rfl) ?_
  refine lv_iconst (v := 0) hx hb dX1_at_1 (by decide) ?_
  refine va_put (D := G) (ci := 1) (v := .int 0) (ty := .int) (C := RX1) (T := TX1) (N := 5) hx hb hts hin tyX1 tyX1_ok nmX1 hown hK hP (hD _ _ _ _ _) hS 0 rfl rfl 4 (by decide) (hts _ (tb_cons _ w_fl_X1_24)) (fun _ h9 => h9) rfl (by decide +kernel) rfl rfl (Nat.le_of_ble_eq_true rfl) dX1_at_2 (fun H locs hP _ hS => ?_)
  have hP : va_P G vwCl (wM a C T K D w 0) H := hP
  refine lv_iconst (v := 0) hx hb dX1_at_5 (by decide) ?_
  refine lv_istore_n hx hb dX1_at_6 rfl hl (by decide) rfl (fun ls hl => ?_)
  have hl : lv_has ls 3 [(2, .int 0), (0, .ref (a 0)), (1, .int x)] := hl
  have loop : ∀ (k : Nat) (i : Nat), i + k = 200 → ft_fb (ft_atP T K x) k i = (ft_fb (ft_atP T K x) 200 0) → ∀ (H : Heap) (locs : List Loc), va_P G vwCl (wM a C T K D w 0) H → va_S A s.heap H locs → ∀ ls : Array Slot, lv_has ls 3 [(2, .int (nI i)), (0, .ref (a 0)), (1, .int x)] → W p l e { frames := 2, cells := 0, slots := 0, locals := 60 } s m ([.ref (a 0), .int x] : List Value).toArray below meth c H locs 0 0 (MQ below (wr_Q G vwCl (some (.int ((if (ft_fb (ft_atP T K x) 200 0) < 200 then nI (ft_fb (ft_atP T K x) 200 0) else 0)))) (wM a C T K D w (if (ft_fb (ft_atP T K x) 200 0) < 200 then 0 else 1)) A) ([.ref (a 0), .int x] : List Value).toArray s 0 0 A) (F0 m 7 ls []) := by
    intro k
    induction k with
    | zero =>
      intro i hi hf H locs hP hS ls hl
      refine lv_iload_n hx hb dX1_at_7 rfl (lv_at hl 0 rfl) ?_
      refine lv_sipush (v := 200) hx hb dX1_at_8 (by decide) ?_
      refine lv_icmp_ge (tgt := 40) hx hb dX1_at_11 (by decide) (fun _ => ?_) (fun hc => absurd (nI_le (a := 200) (by omega) (by omega)) hc)
      have hf : i = (ft_fb (ft_atP T K x) 200 0) := hf
      have hn : ¬ (ft_fb (ft_atP T K x) 200 0) < 200 := by omega
      rw [if_neg hn, if_neg hn]
      refine lv_aload_n hx hb dX1_at_40 rfl (lv_at hl 1 rfl) ?_
      refine lv_iconst (v := 1) hx hb dX1_at_41 (by decide) ?_
      refine wr_call (W.runV (As := [.int 1]) (rest := []) S (cm_fail l G a C hD T K D w 0) (cwV 1 hts (gX1_52 tb_cons) rfl rfl rfl (by decide +kernel) ⟨Nat.le_of_ble_eq_true rfl, Nat.le_of_ble_eq_true rfl⟩) (pM_V hP hK) rfl rfl hl.1 rfl (lv_room (Nat.le_of_ble_eq_true rfl)) dX1_at_42 ⟨Nat.zero_le _, Nat.zero_le _⟩) hS (fun _ h => h) (fun H locs hP hS _ _ => ?_)
      have hP : va_P G vwCl (wM a C T K D w 1) H := hP
      refine W.eq (g2 := F0 m 45 ls [.int 0]) rfl ?_
      exact W.iret hx hb hr (fun t ht _ => ⟨rfl, by rw [ht]; exact hP, hS.F ht⟩) hS.2.2 dX1_at_45
    | succ k ih =>
      intro i hi hf H locs hP hS ls hl
      refine lv_iload_n hx hb dX1_at_7 rfl (lv_at hl 0 rfl) ?_
      refine lv_sipush (v := 200) hx hb dX1_at_8 (by decide) ?_
      refine lv_icmp_ge (tgt := 40) hx hb dX1_at_11 (by decide) (fun hc => absurd hc (nI_ge (b := 200) (by omega) (by decide))) (fun _ => ?_)
      refine lv_aload_n hx hb dX1_at_14 rfl (lv_at hl 1 rfl) ?_
      refine va_get (D := G) (ci := 1) (C := RX1) (T := TX1) (N := 5) hx hb hts hin hown hK hP 0 rfl rfl 0 (by decide) (hts _ (tb_cons _ w_fl_X1_9)) (fun _ h9 => h9) rfl dX1_at_15 ?_
      refine lv_iload_n hx hb dX1_at_18 rfl (lv_at hl 0 rfl) ?_
      refine q_zald hx hb hK hP 1 0 rfl rfl (i) rfl (by omega) (by decide) dX1_at_19 ?_
      have hf : (if ft_atP T K x i = true then ft_fb (ft_atP T K x) k (i + 1) else i) = (ft_fb (ft_atP T K x) 200 0) := hf
      by_cases hT : T i = true
      · refine q_topi (y := 1) (ft_tb_t hT) ?_
        refine lv_if_eq (tgt := 34) hx hb dX1_at_20 (by decide) (fun hc => absurd hc (by decide)) (fun _ => ?_)
        refine lv_aload_n hx hb dX1_at_23 rfl (lv_at hl 1 rfl) ?_
        refine lv_iload_n hx hb dX1_at_24 rfl (lv_at hl 0 rfl) ?_
        refine rd_call (W.runV (As := [.int (nI i)]) (rest := []) S (cm_place l G a C T K D w 0 (j := i) (by omega)) (cwV 1 hts (gX1_66 tb_cons) rfl rfl rfl (by decide +kernel) ⟨Nat.le_of_ble_eq_true rfl, Nat.le_of_ble_eq_true rfl⟩) (pM_V hP hK) rfl rfl hl.1 rfl (lv_room (Nat.le_of_ble_eq_true rfl)) dX1_at_25 ⟨Nat.zero_le _, Nat.zero_le _⟩) ?_
        refine lv_iload_n hx hb dX1_at_28 rfl (lv_at hl 2 rfl) ?_
        refine lv_icmp_ne (tgt := 34) hx hb dX1_at_29 (by decide) (fun hq => ?_) (fun hq => ?_)
        · rw [if_pos (by show (!(T i && decide (nI (ft_cnt (fun q => T q && ft_sb K (K i) (nI i) q) 200) = x))) = true; rw [hT, decide_eq_false hq]; rfl)] at hf
          refine lv_iinc (k := 0) (v := nI (i + 1)) hx hb dX1_at_34 hl rfl (nI_succ i).symm (by decide) rfl (fun ls hl => ?_)
          have hl : lv_has ls 3 [(2, .int (nI (i + 1))), (0, .ref (a 0)), (1, .int x)] := hl
          refine lv_goto (tgt := 7) hx hb dX1_at_37 (by decide) ?_
          exact ih (i + 1) (by omega) hf H locs hP hS ls hl
        · rw [if_neg (by show ¬ (!(T i && decide (nI (ft_cnt (fun q => T q && ft_sb K (K i) (nI i) q) 200) = x))) = true; rw [hT, decide_eq_true hq]; decide)] at hf
          have hn : (ft_fb (ft_atP T K x) 200 0) < 200 := by omega
          rw [if_pos hn, if_pos hn]
          refine lv_iload_n hx hb dX1_at_32 rfl (lv_at hl 0 rfl) ?_
          exact W.iret hx hb hr (fun t ht _ => ⟨by rw [← hf], by rw [ht]; exact hP, hS.F ht⟩) hS.2.2 dX1_at_33
      · refine q_topi (y := 0) (ft_tb_f hT) ?_
        rw [if_pos (by show (!(T i && decide (nI (ft_cnt (fun q => T q && ft_sb K (K i) (nI i) q) 200) = x))) = true; rw [show T i = false by simpa using hT]; rfl)] at hf
        refine lv_if_eq (tgt := 34) hx hb dX1_at_20 (by decide) (fun _ => ?_) (fun hc => absurd (rfl) hc)
        refine lv_iinc (k := 0) (v := nI (i + 1)) hx hb dX1_at_34 hl rfl (nI_succ i).symm (by decide) rfl (fun ls hl => ?_)
        have hl : lv_has ls 3 [(2, .int (nI (i + 1))), (0, .ref (a 0)), (1, .int x)] := hl
        refine lv_goto (tgt := 7) hx hb dX1_at_37 (by decide) ?_
        exact ih (i + 1) (by omega) hf H locs hP hS ls hl
  exact loop 200 0 (by omega) rfl H locs hP hS ls hl
