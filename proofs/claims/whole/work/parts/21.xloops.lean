set_option maxHeartbeats 4000000 in
set_option maxRecDepth 100000 in
theorem cx_placesBefore (l : Launch) (G : va_G) (a : Nat → Nat) (C : Nat → ClassId) (K D : Nat → Int64) (Wt O : Nat → Int32) (Lf : Nat → Nat) (sz : Nat) (hs : sz ≤ 200) (hO : ∀ i, i < sz → O i = nI (Lf i) ∧ Lf i < 200) (key : Int64) (num : Int32) : Met l yX0_placesBefore wsX0_placesBefore { frames := 1, cells := 0, slots := 0, locals := 30 } (va_Pc [.ref (a 0), .long key, .int num] (rX G a C K D Wt O (nI sz))) (rd_Q (.int (nI (ft_fb (fun i => ft_sb K key num (Lf i)) sz 0)))) 0 0 (fun _ => False) := by
  refine q_open (cc := cX0_placesBefore) (maxL := 5) (ret := (some .int)) (by decide) rfl (Nat.le_of_ble_eq_true rfl) ?_
  intro p e s m below meth c ls S hr hlk hB hl
  obtain ⟨hx, hb, hml, hown, hts⟩ := id S
  obtain ⟨hP, hK⟩ := hB
  have hin : ∀ w ∈ u_ws RX0 TX0 5, w ∈ wsX0_placesBefore := fun w h => tb_cons w (hinX0 w h)
  have hl : lv_has ls 5 [(0, .ref (a 0)), (1, .long key), (3, .int num)] := hl
  refine lv_iconst (v := 0) hx hb dX0_placesBefore_0 (by decide) ?_
  refine lv_istore hx hb dX0_placesBefore_1 hl (by decide) rfl (fun ls hl => ?_)
  have hl : lv_has ls 5 [(4, .int 0), (0, .ref (a 0)), (1, .long key), (3, .int num)] := hl
  have loop : ∀ (k : Nat) (i : Nat), i + k = sz → ft_fb (fun i => ft_sb K key num (Lf i)) k i = ft_fb (fun i => ft_sb K key num (Lf i)) sz 0 → ∀ ls : Array Slot, lv_has ls 5 [(4, .int (nI i)), (0, .ref (a 0)), (1, .long key), (3, .int num)] → W p l e { frames := 1, cells := 0, slots := 0, locals := 30 } s m ([.ref (a 0), .long key, .int num] : List Value).toArray below meth c s.heap [] 0 0 (MQ below (rd_Q (.int (nI (ft_fb (fun i => ft_sb K key num (Lf i)) sz 0)))) ([.ref (a 0), .long key, .int num] : List Value).toArray s 0 0 (fun _ => False)) (F0 m 3 ls []) := by
    intro k
    induction k with
    | zero =>
      intro i hi hf ls hl
      refine lv_iload hx hb dX0_placesBefore_3 (lv_at hl 0 rfl) ?_
      refine lv_aload_n hx hb dX0_placesBefore_5 rfl (lv_at hl 1 rfl) ?_
      refine va_get (D := G) (ci := 0) (C := RX0) (T := TX0) (N := 5) hx hb hts hin hown hK hP 0 rfl rfl 4 (by decide) (hts _ (tb_cons _ w_fl_X0_23)) (fun _ h9 => h9) rfl dX0_placesBefore_6 ?_
      refine lv_icmp_ge (tgt := 34) hx hb dX0_placesBefore_9 (by decide) (fun _ => ?_) (fun hc => absurd (nI_le (by omega) (by omega)) hc)
      refine lv_iload hx hb dX0_placesBefore_34 (lv_at hl 0 rfl) ?_
      have hf : i = ft_fb (fun i => ft_sb K key num (Lf i)) sz 0 := hf
      exact W.iret hx hb hr (fun t ht _ => ⟨by rw [← hf], ht⟩) (fun q h => by cases h) dX0_placesBefore_36
    | succ k ih =>
      intro i hi hf ls hl
      refine lv_iload hx hb dX0_placesBefore_3 (lv_at hl 0 rfl) ?_
      refine lv_aload_n hx hb dX0_placesBefore_5 rfl (lv_at hl 1 rfl) ?_
      refine va_get (D := G) (ci := 0) (C := RX0) (T := TX0) (N := 5) hx hb hts hin hown hK hP 0 rfl rfl 4 (by decide) (hts _ (tb_cons _ w_fl_X0_23)) (fun _ h9 => h9) rfl dX0_placesBefore_6 ?_
      refine lv_icmp_ge (tgt := 34) hx hb dX0_placesBefore_9 (by decide) (fun hc => absurd hc (nI_ge (by omega) (by omega))) (fun _ => ?_)
      refine lv_aload_n hx hb dX0_placesBefore_12 rfl (lv_at hl 1 rfl) ?_
      refine lv_aload_n hx hb dX0_placesBefore_13 rfl (lv_at hl 1 rfl) ?_
      refine va_get (D := G) (ci := 0) (C := RX0) (T := TX0) (N := 5) hx hb hts hin hown hK hP 0 rfl rfl 3 (by decide) (hts _ (tb_cons _ w_fl_X0_20)) (fun _ h9 => h9) rfl dX0_placesBefore_14 ?_
      refine lv_iload hx hb dX0_placesBefore_17 (lv_at hl 0 rfl) ?_
      refine q_iald hx hb hK hP 4 3 rfl rfl (i) rfl (by omega) (by decide) dX0_placesBefore_19 ?_
      refine q_topi (y := nI (Lf i)) (hO i (by omega)).1 ?_
      refine lv_lload_n hx hb dX0_placesBefore_20 rfl (lv_at hl 2 rfl) ?_
      refine lv_iload_n hx hb dX0_placesBefore_21 rfl (lv_at hl 3 rfl) ?_
      refine rd_call (W.runV (As := [.int (nI (Lf i)), .long key, .int num]) (rest := []) S (cx_standsBefore l G a C K D Wt O (nI sz) (hO i (by omega)).2 key num) (cwV 3 hts (gX0_100 tb_cons) rfl rfl rfl (by decide +kernel) ⟨Nat.le_of_ble_eq_true rfl, Nat.le_of_ble_eq_true rfl⟩) (pX_V hP hK) rfl rfl hl.1 rfl (lv_room (Nat.le_of_ble_eq_true rfl)) dX0_placesBefore_22 ⟨Nat.zero_le _, Nat.zero_le _⟩) ?_
      have hf : (if ft_sb K key num (Lf i) = true then ft_fb (fun i => ft_sb K key num (Lf i)) k (i + 1) else i) = ft_fb (fun i => ft_sb K key num (Lf i)) sz 0 := hf
      by_cases hq : ft_sb K key num (Lf i) = true
      · rw [if_pos hq] at hf ⊢
        refine lv_if_eq (tgt := 34) hx hb dX0_placesBefore_25 (by decide) (fun hc => absurd hc (by decide)) (fun _ => ?_)
        refine lv_iinc (k := 0) (v := nI (i + 1)) hx hb dX0_placesBefore_28 hl rfl (nI_succ i).symm (by decide) rfl (fun ls hl => ?_)
        have hl : lv_has ls 5 [(4, .int (nI (i + 1))), (0, .ref (a 0)), (1, .long key), (3, .int num)] := hl
        refine lv_goto (tgt := 3) hx hb dX0_placesBefore_31 (by decide) ?_
        exact ih (i + 1) (by omega) hf ls hl
      · rw [if_neg hq] at hf ⊢
        refine lv_if_eq (tgt := 34) hx hb dX0_placesBefore_25 (by decide) (fun _ => ?_) (fun hc => absurd (rfl) hc)
        refine lv_iload hx hb dX0_placesBefore_34 (lv_at hl 0 rfl) ?_
        exact W.iret hx hb hr (fun t ht _ => ⟨by rw [← hf], ht⟩) (fun q h => by cases h) dX0_placesBefore_36
  exact loop sz 0 (by omega) rfl ls hl
set_option maxHeartbeats 4000000 in
set_option maxRecDepth 100000 in
theorem cx_placesBelow (l : Launch) (G : va_G) (a : Nat → Nat) (C : Nat → ClassId) (K D : Nat → Int64) (Wt O : Nat → Int32) (Lf : Nat → Nat) (sz : Nat) (hs : sz ≤ 200) (hO : ∀ i, i < sz → O i = nI (Lf i) ∧ Lf i < 200) (key : Int64) : Met l yX0_placesBelow wsX0_placesBelow { frames := 2, cells := 0, slots := 0, locals := 60 } (va_Pc [.ref (a 0), .long key] (rX G a C K D Wt O (nI sz))) (rd_Q (.int (nI (ft_fb (fun i => ft_sb K key 0 (Lf i)) sz 0)))) 0 0 (fun _ => False) := by
  refine q_open (cc := cX0_placesBelow) (maxL := 3) (ret := (some .int)) (by decide) rfl (Nat.le_of_ble_eq_true rfl) ?_
  intro p e s m below meth c ls S hr hlk hB hl
  obtain ⟨hx, hb, hml, hown, hts⟩ := id S
  obtain ⟨hP, hK⟩ := hB
  have hin : ∀ w ∈ u_ws RX0 TX0 5, w ∈ wsX0_placesBelow := fun w h => tb_cons w (hinX0 w h)
  have hl : lv_has ls 3 [(0, .ref (a 0)), (1, .long key)] := hl
  refine lv_aload_n hx hb dX0_placesBelow_0 rfl (lv_at hl 0 rfl) ?_
  refine lv_lload_n hx hb dX0_placesBelow_1 rfl (lv_at hl 1 rfl) ?_
  refine lv_iconst (v := 0) hx hb dX0_placesBelow_2 (by decide) ?_
  refine rd_call (W.runV (As := [.long key, .int 0]) (rest := []) S (cx_placesBefore l G a C K D Wt O Lf sz hs hO key 0) (cwV 2 hts (gX0_59 tb_cons) rfl rfl rfl (by decide +kernel) ⟨Nat.le_of_ble_eq_true rfl, Nat.le_of_ble_eq_true rfl⟩) (pX_V hP hK) rfl rfl hl.1 rfl (lv_room (Nat.le_of_ble_eq_true rfl)) dX0_placesBelow_3 ⟨Nat.zero_le _, Nat.zero_le _⟩) ?_
  exact W.iret hx hb hr (fun t ht _ => ⟨rfl, ht⟩) (fun q h => by cases h) dX0_placesBelow_6
set_option maxHeartbeats 4000000 in
set_option maxRecDepth 100000 in
theorem cx_placesNotAbove (l : Launch) (G : va_G) (a : Nat → Nat) (C : Nat → ClassId) (K D : Nat → Int64) (Wt O : Nat → Int32) (Lf : Nat → Nat) (sz : Nat) (hs : sz ≤ 200) (hO : ∀ i, i < sz → O i = nI (Lf i) ∧ Lf i < 200) (key : Int64) : Met l yX0_placesNotAbove wsX0_placesNotAbove { frames := 2, cells := 0, slots := 0, locals := 60 } (va_Pc [.ref (a 0), .long key] (rX G a C K D Wt O (nI sz))) (rd_Q (.int (nI (ft_fb (fun i => ft_sb K key 200 (Lf i)) sz 0)))) 0 0 (fun _ => False) := by
  refine q_open (cc := cX0_placesNotAbove) (maxL := 3) (ret := (some .int)) (by decide) rfl (Nat.le_of_ble_eq_true rfl) ?_
  intro p e s m below meth c ls S hr hlk hB hl
  obtain ⟨hx, hb, hml, hown, hts⟩ := id S
  obtain ⟨hP, hK⟩ := hB
  have hin : ∀ w ∈ u_ws RX0 TX0 5, w ∈ wsX0_placesNotAbove := fun w h => tb_cons w (hinX0 w h)
  have hl : lv_has ls 3 [(0, .ref (a 0)), (1, .long key)] := hl
  refine lv_aload_n hx hb dX0_placesNotAbove_0 rfl (lv_at hl 0 rfl) ?_
  refine lv_lload_n hx hb dX0_placesNotAbove_1 rfl (lv_at hl 1 rfl) ?_
  refine lv_sipush (v := 200) hx hb dX0_placesNotAbove_2 (by decide) ?_
  refine rd_call (W.runV (As := [.long key, .int 200]) (rest := []) S (cx_placesBefore l G a C K D Wt O Lf sz hs hO key 200) (cwV 2 hts (gX0_59 tb_cons) rfl rfl rfl (by decide +kernel) ⟨Nat.le_of_ble_eq_true rfl, Nat.le_of_ble_eq_true rfl⟩) (pX_V hP hK) rfl rfl hl.1 rfl (lv_room (Nat.le_of_ble_eq_true rfl)) dX0_placesNotAbove_5 ⟨Nat.zero_le _, Nat.zero_le _⟩) ?_
  exact W.iret hx hb hr (fun t ht _ => ⟨rfl, ht⟩) (fun q h => by cases h) dX0_placesNotAbove_8
set_option maxHeartbeats 4000000 in
set_option maxRecDepth 100000 in
theorem cx_weightOfFirst (l : Launch) (G : va_G) (a : Nat → Nat) (C : Nat → ClassId) (K D : Nat → Int64) (Wt O : Nat → Int32) (Lf : Nat → Nat) (sz : Nat) (hs : sz ≤ 200) (hO : ∀ i, i < sz → O i = nI (Lf i) ∧ Lf i < 200) {q : Nat} (hq : q ≤ sz) : Met l yX0_weightOfFirst wsX0_weightOfFirst rm0 (va_Pc [.ref (a 0), .int (nI q)] (rX G a C K D Wt O (nI sz))) (rd_Q (.int (ft_sum (fun a b : Int32 => a + b) 0 (fun i => Wt (Lf i)) q))) 0 0 (fun _ => False) := by
  refine q_open (cc := cX0_weightOfFirst) (maxL := 4) (ret := (some .int)) (by decide) rfl (Nat.le_of_ble_eq_true rfl) ?_
  intro p e s m below meth c ls S hr hlk hB hl
  obtain ⟨hx, hb, hml, hown, hts⟩ := id S
  obtain ⟨hP, hK⟩ := hB
  have hin : ∀ w ∈ u_ws RX0 TX0 5, w ∈ wsX0_weightOfFirst := fun w h => tb_cons w (hinX0 w h)
  have hl : lv_has ls 4 [(0, .ref (a 0)), (1, .int (nI q))] := hl
  refine lv_iconst (v := 0) hx hb dX0_weightOfFirst_0 (by decide) ?_
  refine lv_istore_n hx hb dX0_weightOfFirst_1 rfl hl (by decide) rfl (fun ls hl => ?_)
  have hl : lv_has ls 4 [(2, .int 0), (0, .ref (a 0)), (1, .int (nI q))] := hl
  refine lv_iconst (v := 0) hx hb dX0_weightOfFirst_2 (by decide) ?_
  refine lv_istore_n hx hb dX0_weightOfFirst_3 rfl hl (by decide) rfl (fun ls hl => ?_)
  have hl : lv_has ls 4 [(3, .int 0), (2, .int 0), (0, .ref (a 0)), (1, .int (nI q))] := hl
  have loop : ∀ (k : Nat) (i : Nat), i + k = q → ∀ ls : Array Slot, lv_has ls 4 [(3, .int (nI i)), (2, .int (ft_sum (fun a b : Int32 => a + b) 0 (fun i => Wt (Lf i)) i)), (0, .ref (a 0)), (1, .int (nI q))] → W p l e rm0 s m ([.ref (a 0), .int (nI q)] : List Value).toArray below meth c s.heap [] 0 0 (MQ below (rd_Q (.int (ft_sum (fun a b : Int32 => a + b) 0 (fun i => Wt (Lf i)) q))) ([.ref (a 0), .int (nI q)] : List Value).toArray s 0 0 (fun _ => False)) (F0 m 4 ls []) := by
    intro k
    induction k with
    | zero =>
      intro i hi ls hl
      refine lv_iload_n hx hb dX0_weightOfFirst_4 rfl (lv_at hl 0 rfl) ?_
      refine lv_iload_n hx hb dX0_weightOfFirst_5 rfl (lv_at hl 3 rfl) ?_
      refine lv_icmp_ge (tgt := 29) hx hb dX0_weightOfFirst_6 (by decide) (fun _ => ?_) (fun hc => absurd (nI_le (by omega) (by omega)) hc)
      refine lv_iload_n hx hb dX0_weightOfFirst_29 rfl (lv_at hl 1 rfl) ?_
      have hi : i = q := hi
      exact W.iret hx hb hr (fun t ht _ => ⟨by rw [hi], ht⟩) (fun q h => by cases h) dX0_weightOfFirst_30
    | succ k ih =>
      intro i hi ls hl
      refine lv_iload_n hx hb dX0_weightOfFirst_4 rfl (lv_at hl 0 rfl) ?_
      refine lv_iload_n hx hb dX0_weightOfFirst_5 rfl (lv_at hl 3 rfl) ?_
      refine lv_icmp_ge (tgt := 29) hx hb dX0_weightOfFirst_6 (by decide) (fun hc => absurd hc (nI_ge (by omega) (by omega))) (fun _ => ?_)
      refine lv_iload_n hx hb dX0_weightOfFirst_9 rfl (lv_at hl 1 rfl) ?_
      refine lv_aload_n hx hb dX0_weightOfFirst_10 rfl (lv_at hl 2 rfl) ?_
      refine va_get (D := G) (ci := 0) (C := RX0) (T := TX0) (N := 5) hx hb hts hin hown hK hP 0 rfl rfl 2 (by decide) (hts _ (tb_cons _ w_fl_X0_16)) (fun _ h9 => h9) rfl dX0_weightOfFirst_11 ?_
      refine lv_aload_n hx hb dX0_weightOfFirst_14 rfl (lv_at hl 2 rfl) ?_
      refine va_get (D := G) (ci := 0) (C := RX0) (T := TX0) (N := 5) hx hb hts hin hown hK hP 0 rfl rfl 3 (by decide) (hts _ (tb_cons _ w_fl_X0_20)) (fun _ h9 => h9) rfl dX0_weightOfFirst_15 ?_
      refine lv_iload_n hx hb dX0_weightOfFirst_18 rfl (lv_at hl 0 rfl) ?_
      refine q_iald hx hb hK hP 4 3 rfl rfl (i) rfl (by omega) (by decide) dX0_weightOfFirst_19 ?_
      refine q_topi (y := nI (Lf i)) (hO i (by omega)).1 ?_
      refine q_iald hx hb hK hP 3 2 rfl rfl (Lf i) rfl (hO i (by omega)).2 (by decide) dX0_weightOfFirst_20 ?_
      refine lv_iadd hx hb dX0_weightOfFirst_21 ?_
      refine lv_istore_n hx hb dX0_weightOfFirst_22 rfl hl (by decide) rfl (fun ls hl => ?_)
      have hl : lv_has ls 4 [(2, .int ((ft_sum (fun a b : Int32 => a + b) 0 (fun i => Wt (Lf i)) i) + (Wt (Lf i)))), (3, .int (nI i)), (0, .ref (a 0)), (1, .int (nI q))] := hl
      refine lv_iinc (k := 1) (v := nI (i + 1)) hx hb dX0_weightOfFirst_23 hl rfl (nI_succ i).symm (by decide) rfl (fun ls hl => ?_)
      have hl : lv_has ls 4 [(3, .int (nI (i + 1))), (2, .int ((ft_sum (fun a b : Int32 => a + b) 0 (fun i => Wt (Lf i)) i) + (Wt (Lf i)))), (0, .ref (a 0)), (1, .int (nI q))] := hl
      refine lv_goto (tgt := 4) hx hb dX0_weightOfFirst_26 (by decide) ?_
      exact ih (i + 1) (by omega) ls hl
  exact loop q 0 (by omega) ls hl
set_option maxHeartbeats 4000000 in
set_option maxRecDepth 100000 in
theorem cx_sumOfKeysTimesWeights (l : Launch) (G : va_G) (a : Nat → Nat) (C : Nat → ClassId) (K D : Nat → Int64) (Wt O : Nat → Int32) (Lf : Nat → Nat) (sz : Nat) (hs : sz ≤ 200) (hO : ∀ i, i < sz → O i = nI (Lf i) ∧ Lf i < 200) : Met l yX0_sumOfKeysTimesWeights wsX0_sumOfKeysTimesWeights { frames := 1, cells := 0, slots := 0, locals := 30 } (va_Pc [.ref (a 0)] (rX G a C K D Wt O (nI sz))) (rd_Q (.long (ft_sum (fun a b : Int64 => a + b) 0 (fun i => K (Lf i) * (Wt (Lf i)).toInt64) sz))) 0 0 (fun _ => False) := by
  refine q_open (cc := cX0_sumOfKeysTimesWeights) (maxL := 4) (ret := (some .long)) (by decide) rfl (Nat.le_of_ble_eq_true rfl) ?_
  intro p e s m below meth c ls S hr hlk hB hl
  obtain ⟨hx, hb, hml, hown, hts⟩ := id S
  obtain ⟨hP, hK⟩ := hB
  have hin : ∀ w ∈ u_ws RX0 TX0 5, w ∈ wsX0_sumOfKeysTimesWeights := fun w h => tb_cons w (hinX0 w h)
  have hl : lv_has ls 4 [(0, .ref (a 0))] := hl
  refine lv_lconst (v := 0) hx hb dX0_sumOfKeysTimesWeights_0 (by decide) ?_
  refine lv_lstore_n hx hb dX0_sumOfKeysTimesWeights_1 rfl hl (by decide) rfl (fun ls hl => ?_)
  have hl : lv_has ls 4 [(1, .long 0), (0, .ref (a 0))] := hl
  refine lv_iconst (v := 0) hx hb dX0_sumOfKeysTimesWeights_2 (by decide) ?_
  refine lv_istore_n hx hb dX0_sumOfKeysTimesWeights_3 rfl hl (by decide) rfl (fun ls hl => ?_)
  have hl : lv_has ls 4 [(3, .int 0), (1, .long 0), (0, .ref (a 0))] := hl
  have loop : ∀ (k : Nat) (i : Nat), i + k = sz → ∀ ls : Array Slot, lv_has ls 4 [(3, .int (nI i)), (1, .long (ft_sum (fun a b : Int64 => a + b) 0 (fun i => K (Lf i) * (Wt (Lf i)).toInt64) i)), (0, .ref (a 0))] → W p l e { frames := 1, cells := 0, slots := 0, locals := 30 } s m ([.ref (a 0)] : List Value).toArray below meth c s.heap [] 0 0 (MQ below (rd_Q (.long (ft_sum (fun a b : Int64 => a + b) 0 (fun i => K (Lf i) * (Wt (Lf i)).toInt64) sz))) ([.ref (a 0)] : List Value).toArray s 0 0 (fun _ => False)) (F0 m 4 ls []) := by
    intro k
    induction k with
    | zero =>
      intro i hi ls hl
      refine lv_iload_n hx hb dX0_sumOfKeysTimesWeights_4 rfl (lv_at hl 0 rfl) ?_
      refine lv_aload_n hx hb dX0_sumOfKeysTimesWeights_5 rfl (lv_at hl 2 rfl) ?_
      refine va_get (D := G) (ci := 0) (C := RX0) (T := TX0) (N := 5) hx hb hts hin hown hK hP 0 rfl rfl 4 (by decide) (hts _ (tb_cons _ w_fl_X0_23)) (fun _ h9 => h9) rfl dX0_sumOfKeysTimesWeights_6 ?_
      refine lv_icmp_ge (tgt := 39) hx hb dX0_sumOfKeysTimesWeights_9 (by decide) (fun _ => ?_) (fun hc => absurd (nI_le (by omega) (by omega)) hc)
      refine lv_lload_n hx hb dX0_sumOfKeysTimesWeights_39 rfl (lv_at hl 1 rfl) ?_
      have hi : i = sz := hi
      exact W.lret hx hb hr (fun t ht _ => ⟨by rw [hi], ht⟩) (fun q h => by cases h) dX0_sumOfKeysTimesWeights_40
    | succ k ih =>
      intro i hi ls hl
      refine lv_iload_n hx hb dX0_sumOfKeysTimesWeights_4 rfl (lv_at hl 0 rfl) ?_
      refine lv_aload_n hx hb dX0_sumOfKeysTimesWeights_5 rfl (lv_at hl 2 rfl) ?_
      refine va_get (D := G) (ci := 0) (C := RX0) (T := TX0) (N := 5) hx hb hts hin hown hK hP 0 rfl rfl 4 (by decide) (hts _ (tb_cons _ w_fl_X0_23)) (fun _ h9 => h9) rfl dX0_sumOfKeysTimesWeights_6 ?_
      refine lv_icmp_ge (tgt := 39) hx hb dX0_sumOfKeysTimesWeights_9 (by decide) (fun hc => absurd hc (nI_ge (by omega) (by omega))) (fun _ => ?_)
      refine lv_lload_n hx hb dX0_sumOfKeysTimesWeights_12 rfl (lv_at hl 1 rfl) ?_
      refine lv_aload_n hx hb dX0_sumOfKeysTimesWeights_13 rfl (lv_at hl 2 rfl) ?_
      refine lv_iload_n hx hb dX0_sumOfKeysTimesWeights_14 rfl (lv_at hl 0 rfl) ?_
      refine rd_call (W.runV (As := [.int (nI i)]) (rest := [.long (ft_sum (fun a b : Int64 => a + b) 0 (fun i => K (Lf i) * (Wt (Lf i)).toInt64) i)]) S (cx_keyAt l G a C K D Wt O (nI sz) (i := i) (by omega) (hO i (by omega)).1 (hO i (by omega)).2) (cwV 1 hts (gX0_53 tb_cons) rfl rfl rfl (by decide +kernel) ⟨Nat.le_of_ble_eq_true rfl, Nat.le_of_ble_eq_true rfl⟩) (pX_V hP hK) rfl rfl hl.1 rfl (lv_room (Nat.le_of_ble_eq_true rfl)) dX0_sumOfKeysTimesWeights_15 ⟨Nat.zero_le _, Nat.zero_le _⟩) ?_
      refine lv_aload_n hx hb dX0_sumOfKeysTimesWeights_18 rfl (lv_at hl 2 rfl) ?_
      refine va_get (D := G) (ci := 0) (C := RX0) (T := TX0) (N := 5) hx hb hts hin hown hK hP 0 rfl rfl 2 (by decide) (hts _ (tb_cons _ w_fl_X0_16)) (fun _ h9 => h9) rfl dX0_sumOfKeysTimesWeights_19 ?_
      refine lv_aload_n hx hb dX0_sumOfKeysTimesWeights_22 rfl (lv_at hl 2 rfl) ?_
      refine va_get (D := G) (ci := 0) (C := RX0) (T := TX0) (N := 5) hx hb hts hin hown hK hP 0 rfl rfl 3 (by decide) (hts _ (tb_cons _ w_fl_X0_20)) (fun _ h9 => h9) rfl dX0_sumOfKeysTimesWeights_23 ?_
      refine lv_iload_n hx hb dX0_sumOfKeysTimesWeights_26 rfl (lv_at hl 0 rfl) ?_
      refine q_iald hx hb hK hP 4 3 rfl rfl (i) rfl (by omega) (by decide) dX0_sumOfKeysTimesWeights_27 ?_
      refine q_topi (y := nI (Lf i)) (hO i (by omega)).1 ?_
      refine q_iald hx hb hK hP 3 2 rfl rfl (Lf i) rfl (hO i (by omega)).2 (by decide) dX0_sumOfKeysTimesWeights_28 ?_
      refine lv_i2l hx hb dX0_sumOfKeysTimesWeights_29 rfl ?_
      refine lv_lmul hx hb dX0_sumOfKeysTimesWeights_30 ?_
      refine lv_ladd hx hb dX0_sumOfKeysTimesWeights_31 ?_
      refine lv_lstore_n hx hb dX0_sumOfKeysTimesWeights_32 rfl hl (by decide) rfl (fun ls hl => ?_)
      have hl : lv_has ls 4 [(1, .long ((ft_sum (fun a b : Int64 => a + b) 0 (fun i => K (Lf i) * (Wt (Lf i)).toInt64) i) + ((K (Lf i)) * ((Wt (Lf i))).toInt64))), (3, .int (nI i)), (0, .ref (a 0))] := hl
      refine lv_iinc (k := 1) (v := nI (i + 1)) hx hb dX0_sumOfKeysTimesWeights_33 hl rfl (nI_succ i).symm (by decide) rfl (fun ls hl => ?_)
      have hl : lv_has ls 4 [(3, .int (nI (i + 1))), (1, .long ((ft_sum (fun a b : Int64 => a + b) 0 (fun i => K (Lf i) * (Wt (Lf i)).toInt64) i) + ((K (Lf i)) * ((Wt (Lf i))).toInt64))), (0, .ref (a 0))] := hl
      refine lv_goto (tgt := 4) hx hb dX0_sumOfKeysTimesWeights_36 (by decide) ?_
      exact ih (i + 1) (by omega) ls hl
  exact loop sz 0 (by omega) ls hl
set_option maxHeartbeats 4000000 in
set_option maxRecDepth 100000 in
theorem cx_fairPlaces (l : Launch) (G : va_G) (a : Nat → Nat) (C : Nat → ClassId) (K D : Nat → Int64) (Wt O : Nat → Int32) (Lf : Nat → Nat) (sz : Nat) (hs : sz ≤ 200) (hO : ∀ i, i < sz → O i = nI (Lf i) ∧ Lf i < 200) : Met l yX0_fairPlaces wsX0_fairPlaces { frames := 2, cells := 0, slots := 0, locals := 60 } (va_Pc [.ref (a 0)] (rX G a C K D Wt O (nI sz))) (rd_Q (.int (nI (ft_fb (fun i => decide (K (Lf i) * (ft_sum (fun a b : Int32 => a + b) 0 (fun i => Wt (Lf i)) sz).toInt64 ≤ (ft_sum (fun a b : Int64 => a + b) 0 (fun i => K (Lf i) * (Wt (Lf i)).toInt64) sz))) sz 0)))) 0 0 (fun _ => False) := by
  refine q_open (cc := cX0_fairPlaces) (maxL := 6) (ret := (some .int)) (by decide) rfl (Nat.le_of_ble_eq_true rfl) ?_
  intro p e s m below meth c ls S hr hlk hB hl
  obtain ⟨hx, hb, hml, hown, hts⟩ := id S
  obtain ⟨hP, hK⟩ := hB
  have hin : ∀ w ∈ u_ws RX0 TX0 5, w ∈ wsX0_fairPlaces := fun w h => tb_cons w (hinX0 w h)
  have hl : lv_has ls 6 [(0, .ref (a 0))] := hl
  refine lv_aload_n hx hb dX0_fairPlaces_0 rfl (lv_at hl 0 rfl) ?_
  refine lv_aload_n hx hb dX0_fairPlaces_1 rfl (lv_at hl 0 rfl) ?_
  refine va_get (D := G) (ci := 0) (C := RX0) (T := TX0) (N := 5) hx hb hts hin hown hK hP 0 rfl rfl 4 (by decide) (hts _ (tb_cons _ w_fl_X0_23)) (fun _ h9 => h9) rfl dX0_fairPlaces_2 ?_
  refine rd_call (W.runV (As := [.int (nI sz)]) (rest := []) S (cx_weightOfFirst l G a C K D Wt O Lf sz hs hO (Nat.le_refl sz)) (cwV 1 hts (gX0_78 tb_cons) rfl rfl rfl (by decide +kernel) ⟨Nat.le_of_ble_eq_true rfl, Nat.le_of_ble_eq_true rfl⟩) (pX_V hP hK) rfl rfl hl.1 rfl (lv_room (Nat.le_of_ble_eq_true rfl)) dX0_fairPlaces_5 ⟨Nat.zero_le _, Nat.zero_le _⟩) ?_
  refine lv_i2l hx hb dX0_fairPlaces_8 rfl ?_
  refine lv_lstore_n hx hb dX0_fairPlaces_9 rfl hl (by decide) rfl (fun ls hl => ?_)
  have hl : lv_has ls 6 [(1, .long ((ft_sum (fun a b : Int32 => a + b) 0 (fun i => Wt (Lf i)) sz)).toInt64), (0, .ref (a 0))] := hl
  refine lv_aload_n hx hb dX0_fairPlaces_10 rfl (lv_at hl 1 rfl) ?_
  refine rd_call (W.runV (As := []) (rest := []) S (cx_sumOfKeysTimesWeights l G a C K D Wt O Lf sz hs hO) (cwV 0 hts (gX0_82 tb_cons) rfl rfl rfl (by decide +kernel) ⟨Nat.le_of_ble_eq_true rfl, Nat.le_of_ble_eq_true rfl⟩) (pX_V hP hK) rfl rfl hl.1 rfl (lv_room (Nat.le_of_ble_eq_true rfl)) dX0_fairPlaces_11 ⟨Nat.zero_le _, Nat.zero_le _⟩) ?_
  refine lv_lstore_n hx hb dX0_fairPlaces_14 rfl hl (by decide) rfl (fun ls hl => ?_)
  have hl : lv_has ls 6 [(3, .long (ft_sum (fun a b : Int64 => a + b) 0 (fun i => K (Lf i) * (Wt (Lf i)).toInt64) sz)), (1, .long ((ft_sum (fun a b : Int32 => a + b) 0 (fun i => Wt (Lf i)) sz)).toInt64), (0, .ref (a 0))] := hl
  refine lv_iconst (v := 0) hx hb dX0_fairPlaces_15 (by decide) ?_
  refine lv_istore hx hb dX0_fairPlaces_16 hl (by decide) rfl (fun ls hl => ?_)
  have hl : lv_has ls 6 [(5, .int 0), (3, .long (ft_sum (fun a b : Int64 => a + b) 0 (fun i => K (Lf i) * (Wt (Lf i)).toInt64) sz)), (1, .long ((ft_sum (fun a b : Int32 => a + b) 0 (fun i => Wt (Lf i)) sz)).toInt64), (0, .ref (a 0))] := hl
  have loop : ∀ (k : Nat) (i : Nat), i + k = sz → ft_fb (fun i => decide (K (Lf i) * (ft_sum (fun a b : Int32 => a + b) 0 (fun i => Wt (Lf i)) sz).toInt64 ≤ (ft_sum (fun a b : Int64 => a + b) 0 (fun i => K (Lf i) * (Wt (Lf i)).toInt64) sz))) k i = ft_fb (fun i => decide (K (Lf i) * (ft_sum (fun a b : Int32 => a + b) 0 (fun i => Wt (Lf i)) sz).toInt64 ≤ (ft_sum (fun a b : Int64 => a + b) 0 (fun i => K (Lf i) * (Wt (Lf i)).toInt64) sz))) sz 0 → ∀ ls : Array Slot, lv_has ls 6 [(5, .int (nI i)), (3, .long (ft_sum (fun a b : Int64 => a + b) 0 (fun i => K (Lf i) * (Wt (Lf i)).toInt64) sz)), (1, .long (ft_sum (fun a b : Int32 => a + b) 0 (fun i => Wt (Lf i)) sz).toInt64), (0, .ref (a 0))] → W p l e { frames := 2, cells := 0, slots := 0, locals := 60 } s m ([.ref (a 0)] : List Value).toArray below meth c s.heap [] 0 0 (MQ below (rd_Q (.int (nI (ft_fb (fun i => decide (K (Lf i) * (ft_sum (fun a b : Int32 => a + b) 0 (fun i => Wt (Lf i)) sz).toInt64 ≤ (ft_sum (fun a b : Int64 => a + b) 0 (fun i => K (Lf i) * (Wt (Lf i)).toInt64) sz))) sz 0)))) ([.ref (a 0)] : List Value).toArray s 0 0 (fun _ => False)) (F0 m 18 ls []) := by
    intro k
    induction k with
    | zero =>
      intro i hi hf ls hl
      refine lv_iload hx hb dX0_fairPlaces_18 (lv_at hl 0 rfl) ?_
      refine lv_aload_n hx hb dX0_fairPlaces_20 rfl (lv_at hl 3 rfl) ?_
      refine va_get (D := G) (ci := 0) (C := RX0) (T := TX0) (N := 5) hx hb hts hin hown hK hP 0 rfl rfl 4 (by decide) (hts _ (tb_cons _ w_fl_X0_23)) (fun _ h9 => h9) rfl dX0_fairPlaces_21 ?_
      refine lv_icmp_ge (tgt := 46) hx hb dX0_fairPlaces_24 (by decide) (fun _ => ?_) (fun hc => absurd (nI_le (by omega) (by omega)) hc)
      refine lv_iload hx hb dX0_fairPlaces_46 (lv_at hl 0 rfl) ?_
      have hf : i = ft_fb (fun i => decide (K (Lf i) * (ft_sum (fun a b : Int32 => a + b) 0 (fun i => Wt (Lf i)) sz).toInt64 ≤ (ft_sum (fun a b : Int64 => a + b) 0 (fun i => K (Lf i) * (Wt (Lf i)).toInt64) sz))) sz 0 := hf
      exact W.iret hx hb hr (fun t ht _ => ⟨by rw [← hf], ht⟩) (fun q h => by cases h) dX0_fairPlaces_48
    | succ k ih =>
      intro i hi hf ls hl
      refine lv_iload hx hb dX0_fairPlaces_18 (lv_at hl 0 rfl) ?_
      refine lv_aload_n hx hb dX0_fairPlaces_20 rfl (lv_at hl 3 rfl) ?_
      refine va_get (D := G) (ci := 0) (C := RX0) (T := TX0) (N := 5) hx hb hts hin hown hK hP 0 rfl rfl 4 (by decide) (hts _ (tb_cons _ w_fl_X0_23)) (fun _ h9 => h9) rfl dX0_fairPlaces_21 ?_
      refine lv_icmp_ge (tgt := 46) hx hb dX0_fairPlaces_24 (by decide) (fun hc => absurd hc (nI_ge (by omega) (by omega))) (fun _ => ?_)
      refine lv_aload_n hx hb dX0_fairPlaces_27 rfl (lv_at hl 3 rfl) ?_
      refine lv_iload hx hb dX0_fairPlaces_28 (lv_at hl 0 rfl) ?_
      refine rd_call (W.runV (As := [.int (nI i)]) (rest := []) S (cx_keyAt l G a C K D Wt O (nI sz) (i := i) (by omega) (hO i (by omega)).1 (hO i (by omega)).2) (cwV 1 hts (gX0_53 tb_cons) rfl rfl rfl (by decide +kernel) ⟨Nat.le_of_ble_eq_true rfl, Nat.le_of_ble_eq_true rfl⟩) (pX_V hP hK) rfl rfl hl.1 rfl (lv_room (Nat.le_of_ble_eq_true rfl)) dX0_fairPlaces_30 ⟨Nat.zero_le _, Nat.zero_le _⟩) ?_
      refine lv_lload_n hx hb dX0_fairPlaces_33 rfl (lv_at hl 2 rfl) ?_
      refine lv_lmul hx hb dX0_fairPlaces_34 ?_
      refine lv_lload_n hx hb dX0_fairPlaces_35 rfl (lv_at hl 1 rfl) ?_
      refine W.lcmp hx hb dX0_fairPlaces_36 ?_
      have hf : (if decide (K (Lf i) * (ft_sum (fun a b : Int32 => a + b) 0 (fun i => Wt (Lf i)) sz).toInt64 ≤ (ft_sum (fun a b : Int64 => a + b) 0 (fun i => K (Lf i) * (Wt (Lf i)).toInt64) sz)) = true then ft_fb (fun i => decide (K (Lf i) * (ft_sum (fun a b : Int32 => a + b) 0 (fun i => Wt (Lf i)) sz).toInt64 ≤ (ft_sum (fun a b : Int64 => a + b) 0 (fun i => K (Lf i) * (Wt (Lf i)).toInt64) sz))) k (i + 1) else i) = ft_fb (fun i => decide (K (Lf i) * (ft_sum (fun a b : Int32 => a + b) 0 (fun i => Wt (Lf i)) sz).toInt64 ≤ (ft_sum (fun a b : Int64 => a + b) 0 (fun i => K (Lf i) * (Wt (Lf i)).toInt64) sz))) sz 0 := hf
      refine lv_if_gt (tgt := 46) hx hb dX0_fairPlaces_37 (by decide) (fun hq => ?_) (fun hq => ?_)
      · rw [if_neg (fun z => Int64.not_le.mpr ((lg_cmp_gt _ _).mp hq) (of_decide_eq_true z))] at hf
        refine lv_iload hx hb dX0_fairPlaces_46 (lv_at hl 0 rfl) ?_
        exact W.iret hx hb hr (fun t ht _ => ⟨by rw [← hf], ht⟩) (fun q h => by cases h) dX0_fairPlaces_48
      · rw [if_pos (decide_eq_true (Int64.not_lt.mp (fun z => hq ((lg_cmp_gt _ _).mpr z))))] at hf
        refine lv_iinc (k := 0) (v := nI (i + 1)) hx hb dX0_fairPlaces_40 hl rfl (nI_succ i).symm (by decide) rfl (fun ls hl => ?_)
        have hl : lv_has ls 6 [(5, .int (nI (i + 1))), (3, .long (ft_sum (fun a b : Int64 => a + b) 0 (fun i => K (Lf i) * (Wt (Lf i)).toInt64) sz)), (1, .long (ft_sum (fun a b : Int32 => a + b) 0 (fun i => Wt (Lf i)) sz).toInt64), (0, .ref (a 0))] := hl
        refine lv_goto (tgt := 18) hx hb dX0_fairPlaces_43 (by decide) ?_
        exact ih (i + 1) (by omega) hf ls hl
  exact loop sz 0 (by omega) rfl ls hl
set_option maxHeartbeats 4000000 in
set_option maxRecDepth 100000 in
theorem cx_earliestOfPlaces (l : Launch) (G : va_G) (a : Nat → Nat) (C : Nat → ClassId) (K D : Nat → Int64) (Wt O : Nat → Int32) (Lf : Nat → Nat) (sz : Nat) (hs : sz ≤ 200) (hO : ∀ i, i < sz → O i = nI (Lf i) ∧ Lf i < 200) {u v : Nat} (huv : u < v) (hv : v ≤ sz) : Met l yX0_earliestOfPlaces wsX0_earliestOfPlaces { frames := 1, cells := 0, slots := 0, locals := 30 } (va_Pc [.ref (a 0), .int (nI u), .int (nI v)] (rX G a C K D Wt O (nI sz))) (rd_Q (.int (nI (ft_em D Lf (v - u - 1) (u + 1) (Lf u))))) 0 0 (fun _ => False) := by
  refine q_open (cc := cX0_earliestOfPlaces) (maxL := 5) (ret := (some .int)) (by decide) rfl (Nat.le_of_ble_eq_true rfl) ?_
  intro p e s m below meth c ls S hr hlk hB hl
  obtain ⟨hx, hb, hml, hown, hts⟩ := id S
  obtain ⟨hP, hK⟩ := hB
  have hin : ∀ w ∈ u_ws RX0 TX0 5, w ∈ wsX0_earliestOfPlaces := fun w h => tb_cons w (hinX0 w h)
  have hl : lv_has ls 5 [(0, .ref (a 0)), (1, .int (nI u)), (2, .int (nI v))] := hl
  refine lv_iload_n hx hb dX0_earliestOfPlaces_0 rfl (lv_at hl 1 rfl) ?_
  refine lv_iload_n hx hb dX0_earliestOfPlaces_1 rfl (lv_at hl 2 rfl) ?_
  refine lv_icmp_lt (tgt := 13) hx hb dX0_earliestOfPlaces_2 (by decide) (fun _ => ?_) (fun hc => absurd (nI_lt huv (by omega)) hc)
  refine lv_aload_n hx hb dX0_earliestOfPlaces_13 rfl (lv_at hl 0 rfl) ?_
  refine va_get (D := G) (ci := 0) (C := RX0) (T := TX0) (N := 5) hx hb hts hin hown hK hP 0 rfl rfl 3 (by decide) (hts _ (tb_cons _ w_fl_X0_20)) (fun _ h9 => h9) rfl dX0_earliestOfPlaces_14 ?_
  refine lv_iload_n hx hb dX0_earliestOfPlaces_17 rfl (lv_at hl 1 rfl) ?_
  refine q_iald hx hb hK hP 4 3 rfl rfl (u) rfl (by omega) (by decide) dX0_earliestOfPlaces_18 ?_
  refine q_topi (y := nI (Lf u)) (hO u (by omega)).1 ?_
  refine lv_istore_n hx hb dX0_earliestOfPlaces_19 rfl hl (by decide) rfl (fun ls hl => ?_)
  have hl : lv_has ls 5 [(3, .int (nI (Lf u))), (0, .ref (a 0)), (1, .int (nI u)), (2, .int (nI v))] := hl
  refine lv_iload_n hx hb dX0_earliestOfPlaces_20 rfl (lv_at hl 2 rfl) ?_
  refine lv_iconst (v := 1) hx hb dX0_earliestOfPlaces_21 (by decide) ?_
  refine lv_iadd hx hb dX0_earliestOfPlaces_22 ?_
  refine q_topi (y := nI (u + 1)) (nI_succ u).symm ?_
  refine lv_istore hx hb dX0_earliestOfPlaces_23 hl (by decide) rfl (fun ls hl => ?_)
  have hl : lv_has ls 5 [(4, .int (nI (u + 1))), (3, .int (nI (Lf u))), (0, .ref (a 0)), (1, .int (nI u)), (2, .int (nI v))] := hl
  have loop : ∀ (k : Nat) (i f : Nat), i + k = v → f < 200 → (ft_em D Lf k i f) = (ft_em D Lf (v - u - 1) (u + 1) (Lf u)) → ∀ ls : Array Slot, lv_has ls 5 [(4, .int (nI i)), (3, .int (nI f)), (0, .ref (a 0)), (1, .int (nI u)), (2, .int (nI v))] → W p l e { frames := 1, cells := 0, slots := 0, locals := 30 } s m ([.ref (a 0), .int (nI u), .int (nI v)] : List Value).toArray below meth c s.heap [] 0 0 (MQ below (rd_Q (.int (nI (ft_em D Lf (v - u - 1) (u + 1) (Lf u))))) ([.ref (a 0), .int (nI u), .int (nI v)] : List Value).toArray s 0 0 (fun _ => False)) (F0 m 25 ls []) := by
    intro k
    induction k with
    | zero =>
      intro i f hi hf he ls hl
      refine lv_iload hx hb dX0_earliestOfPlaces_25 (lv_at hl 0 rfl) ?_
      refine lv_iload_n hx hb dX0_earliestOfPlaces_27 rfl (lv_at hl 4 rfl) ?_
      refine lv_icmp_ge (tgt := 60) hx hb dX0_earliestOfPlaces_28 (by decide) (fun _ => ?_) (fun hc => absurd (nI_le (by omega) (by omega)) hc)
      refine lv_iload_n hx hb dX0_earliestOfPlaces_60 rfl (lv_at hl 1 rfl) ?_
      have he : f = (ft_em D Lf (v - u - 1) (u + 1) (Lf u)) := he
      exact W.iret hx hb hr (fun t ht _ => ⟨by rw [← he], ht⟩) (fun q h => by cases h) dX0_earliestOfPlaces_61
    | succ k ih =>
      intro i f hi hf he ls hl
      refine lv_iload hx hb dX0_earliestOfPlaces_25 (lv_at hl 0 rfl) ?_
      refine lv_iload_n hx hb dX0_earliestOfPlaces_27 rfl (lv_at hl 4 rfl) ?_
      refine lv_icmp_ge (tgt := 60) hx hb dX0_earliestOfPlaces_28 (by decide) (fun hc => absurd hc (nI_ge (by omega) (by omega))) (fun _ => ?_)
      refine lv_aload_n hx hb dX0_earliestOfPlaces_31 rfl (lv_at hl 2 rfl) ?_
      refine lv_aload_n hx hb dX0_earliestOfPlaces_32 rfl (lv_at hl 2 rfl) ?_
      refine va_get (D := G) (ci := 0) (C := RX0) (T := TX0) (N := 5) hx hb hts hin hown hK hP 0 rfl rfl 3 (by decide) (hts _ (tb_cons _ w_fl_X0_20)) (fun _ h9 => h9) rfl dX0_earliestOfPlaces_33 ?_
      refine lv_iload hx hb dX0_earliestOfPlaces_36 (lv_at hl 0 rfl) ?_
      refine q_iald hx hb hK hP 4 3 rfl rfl (i) rfl (by omega) (by decide) dX0_earliestOfPlaces_38 ?_
      refine q_topi (y := nI (Lf i)) (hO i (by omega)).1 ?_
      refine lv_iload_n hx hb dX0_earliestOfPlaces_39 rfl (lv_at hl 1 rfl) ?_
      refine rd_call (W.runV (As := [.int (nI (Lf i)), .int (nI f)]) (rest := []) S (cx_isEarlier l G a C K D Wt O (nI sz) (hO i (by omega)).2 hf) (cwV 2 hts (gX0_104 tb_cons) rfl rfl rfl (by decide +kernel) ⟨Nat.le_of_ble_eq_true rfl, Nat.le_of_ble_eq_true rfl⟩) (pX_V hP hK) rfl rfl hl.1 rfl (lv_room (Nat.le_of_ble_eq_true rfl)) dX0_earliestOfPlaces_40 ⟨Nat.zero_le _, Nat.zero_le _⟩) ?_
      have he : ft_em D Lf k (i + 1) (if ft_sb D (D f) (nI f) (Lf i) = true then Lf i else f) = (ft_em D Lf (v - u - 1) (u + 1) (Lf u)) := he
      by_cases hq : ft_sb D (D f) (nI f) (Lf i) = true
      · rw [if_pos hq] at he ⊢
        refine lv_if_eq (tgt := 54) hx hb dX0_earliestOfPlaces_43 (by decide) (fun hc => absurd hc (by decide)) (fun _ => ?_)
        refine lv_aload_n hx hb dX0_earliestOfPlaces_46 rfl (lv_at hl 2 rfl) ?_
        refine va_get (D := G) (ci := 0) (C := RX0) (T := TX0) (N := 5) hx hb hts hin hown hK hP 0 rfl rfl 3 (by decide) (hts _ (tb_cons _ w_fl_X0_20)) (fun _ h9 => h9) rfl dX0_earliestOfPlaces_47 ?_
        refine lv_iload hx hb dX0_earliestOfPlaces_50 (lv_at hl 0 rfl) ?_
        refine q_iald hx hb hK hP 4 3 rfl rfl (i) rfl (by omega) (by decide) dX0_earliestOfPlaces_52 ?_
        refine q_topi (y := nI (Lf i)) (hO i (by omega)).1 ?_
        refine lv_istore_n hx hb dX0_earliestOfPlaces_53 rfl hl (by decide) rfl (fun ls hl => ?_)
        have hl : lv_has ls 5 [(3, .int (nI (Lf i))), (4, .int (nI i)), (0, .ref (a 0)), (1, .int (nI u)), (2, .int (nI v))] := hl
        refine lv_iinc (k := 1) (v := nI (i + 1)) hx hb dX0_earliestOfPlaces_54 hl rfl (nI_succ i).symm (by decide) rfl (fun ls hl => ?_)
        have hl : lv_has ls 5 [(4, .int (nI (i + 1))), (3, .int (nI (Lf i))), (0, .ref (a 0)), (1, .int (nI u)), (2, .int (nI v))] := hl
        refine lv_goto (tgt := 25) hx hb dX0_earliestOfPlaces_57 (by decide) ?_
        exact ih (i + 1) (Lf i) (by omega) (hO i (by omega)).2 he ls (lv_sub hl [0, 1, 2, 3, 4] rfl)
      · rw [if_neg hq] at he ⊢
        refine lv_if_eq (tgt := 54) hx hb dX0_earliestOfPlaces_43 (by decide) (fun _ => ?_) (fun hc => absurd (rfl) hc)
        refine lv_iinc (k := 0) (v := nI (i + 1)) hx hb dX0_earliestOfPlaces_54 hl rfl (nI_succ i).symm (by decide) rfl (fun ls hl => ?_)
        have hl : lv_has ls 5 [(4, .int (nI (i + 1))), (3, .int (nI f)), (0, .ref (a 0)), (1, .int (nI u)), (2, .int (nI v))] := hl
        refine lv_goto (tgt := 25) hx hb dX0_earliestOfPlaces_57 (by decide) ?_
        exact ih (i + 1) f (by omega) hf he ls hl
  exact loop (v - u - 1) (u + 1) (Lf u) (by omega) (hO u (by omega)).2 rfl ls hl
