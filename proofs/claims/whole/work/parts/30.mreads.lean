set_option maxHeartbeats 4000000 in
set_option maxRecDepth 100000 in
theorem cm_thrown (l : Launch) (G : va_G) (a : Nat → Nat) (C : Nat → ClassId) (T : Nat → Bool) (K D : Nat → Int64) (w : Nat → Int32) (th : Int32) : Met l yX1_thrown wsX1_thrown rm0 (va_Pc [.ref (a 0)] (rM G a C T K D w th)) (rd_Q (.int th)) 0 0 (fun _ => False) := by
  refine q_open (cc := cX1_thrown) (maxL := 1) (ret := (some .int)) (by decide) rfl (Nat.le_of_ble_eq_true rfl) ?_
  intro p e s m below meth c ls S hr hlk hB hl
  obtain ⟨hx, hb, hml, hown, hts⟩ := id S
  obtain ⟨hP, hK⟩ := hB
  have hin : ∀ w ∈ u_ws RX1 TX1 5, w ∈ wsX1_thrown := fun w h => tb_cons w (hinX1 w h)
  have hl : lv_has ls 1 [(0, .ref (a 0))] := hl
  refine lv_aload_n hx hb dX1_thrown_0 rfl (lv_at hl 0 rfl) ?_
  refine va_get (D := G) (ci := 1) (C := RX1) (T := TX1) (N := 5) hx hb hts hin hown hK hP 0 rfl rfl 4 (by decide) (hts _ (tb_cons _ w_fl_X1_24)) (fun _ h9 => h9) rfl dX1_thrown_1 ?_
  exact W.iret hx hb hr (fun t ht _ => ⟨rfl, ht⟩) (fun q h => by cases h) dX1_thrown_4
set_option maxHeartbeats 4000000 in
set_option maxRecDepth 100000 in
theorem cm_before (l : Launch) (G : va_G) (a : Nat → Nat) (C : Nat → ClassId) (T : Nat → Bool) (K D : Nat → Int64) (w : Nat → Int32) (th : Int32) {j f : Nat} (hj : j < 200) (hf : f < 200) : Met l yX1_before wsX1_before rm0 (va_Pc [.ref (a 0), .int (nI j), .int (nI f)] (rM G a C T K D w th)) (rd_Q (.int (if ft_sb K (K f) (nI f) j = true then 1 else 0))) 0 0 (fun _ => False) := by
  refine q_open (cc := cX1_before) (maxL := 3) (ret := (some .boolean)) (by decide) rfl (Nat.le_of_ble_eq_true rfl) ?_
  intro p e s m below meth c ls S hr hlk hB hl
  obtain ⟨hx, hb, hml, hown, hts⟩ := id S
  obtain ⟨hP, hK⟩ := hB
  have hin : ∀ w ∈ u_ws RX1 TX1 5, w ∈ wsX1_before := fun w h => tb_cons w (hinX1 w h)
  have hl : lv_has ls 3 [(0, .ref (a 0)), (1, .int (nI j)), (2, .int (nI f))] := hl
  refine lv_aload_n hx hb dX1_before_0 rfl (lv_at hl 0 rfl) ?_
  refine va_get (D := G) (ci := 1) (C := RX1) (T := TX1) (N := 5) hx hb hts hin hown hK hP 0 rfl rfl 1 (by decide) (hts _ (tb_cons _ w_fl_X1_13)) (fun _ h9 => h9) rfl dX1_before_1 ?_
  refine lv_iload_n hx hb dX1_before_4 rfl (lv_at hl 1 rfl) ?_
  refine q_lald hx hb hK hP 2 1 rfl rfl (j) rfl hj (by decide) dX1_before_5 ?_
  refine lv_aload_n hx hb dX1_before_6 rfl (lv_at hl 0 rfl) ?_
  refine va_get (D := G) (ci := 1) (C := RX1) (T := TX1) (N := 5) hx hb hts hin hown hK hP 0 rfl rfl 1 (by decide) (hts _ (tb_cons _ w_fl_X1_13)) (fun _ h9 => h9) rfl dX1_before_7 ?_
  refine lv_iload_n hx hb dX1_before_10 rfl (lv_at hl 2 rfl) ?_
  refine q_lald hx hb hK hP 2 1 rfl rfl (f) rfl hf (by decide) dX1_before_11 ?_
  refine W.lcmp hx hb dX1_before_12 ?_
  refine lv_if_lt (tgt := 37) hx hb dX1_before_13 (by decide) (fun h1 => ?_) (fun h1 => ?_)
  · refine lv_iconst (v := 1) hx hb dX1_before_37 (by decide) ?_
    refine lv_goto (tgt := 42) hx hb dX1_before_38 (by decide) ?_
    exact W.zret hx hb hr rfl (fun t ht _ => ⟨by rw [if_pos (ft_sb_iff.mpr (Or.inl ((lg_cmp_lt _ _).mp h1)))], ht⟩) (fun q h => by cases h) dX1_before_42
  · refine lv_aload_n hx hb dX1_before_16 rfl (lv_at hl 0 rfl) ?_
    refine va_get (D := G) (ci := 1) (C := RX1) (T := TX1) (N := 5) hx hb hts hin hown hK hP 0 rfl rfl 1 (by decide) (hts _ (tb_cons _ w_fl_X1_13)) (fun _ h9 => h9) rfl dX1_before_17 ?_
    refine lv_iload_n hx hb dX1_before_20 rfl (lv_at hl 1 rfl) ?_
    refine q_lald hx hb hK hP 2 1 rfl rfl (j) rfl hj (by decide) dX1_before_21 ?_
    refine lv_aload_n hx hb dX1_before_22 rfl (lv_at hl 0 rfl) ?_
    refine va_get (D := G) (ci := 1) (C := RX1) (T := TX1) (N := 5) hx hb hts hin hown hK hP 0 rfl rfl 1 (by decide) (hts _ (tb_cons _ w_fl_X1_13)) (fun _ h9 => h9) rfl dX1_before_23 ?_
    refine lv_iload_n hx hb dX1_before_26 rfl (lv_at hl 2 rfl) ?_
    refine q_lald hx hb hK hP 2 1 rfl rfl (f) rfl hf (by decide) dX1_before_27 ?_
    refine W.lcmp hx hb dX1_before_28 ?_
    refine lv_if_ne (tgt := 41) hx hb dX1_before_29 (by decide) (fun h2 => ?_) (fun h2 => ?_)
    · refine lv_iconst (v := 0) hx hb dX1_before_41 (by decide) ?_
      exact W.zret hx hb hr rfl (fun t ht _ => ⟨by rw [if_neg (fun q => (ft_sb_iff.mp q).elim (fun z => h1 ((lg_cmp_lt _ _).mpr z)) (fun z => h2 ((lg_cmp_eq _ _).mpr z.1)))], ht⟩) (fun q h => by cases h) dX1_before_42
    · refine lv_iload_n hx hb dX1_before_32 rfl (lv_at hl 1 rfl) ?_
      refine lv_iload_n hx hb dX1_before_33 rfl (lv_at hl 2 rfl) ?_
      refine lv_icmp_ge (tgt := 41) hx hb dX1_before_34 (by decide) (fun h3 => ?_) (fun h3 => ?_)
      · refine lv_iconst (v := 0) hx hb dX1_before_41 (by decide) ?_
        exact W.zret hx hb hr rfl (fun t ht _ => ⟨by rw [if_neg (fun q => (ft_sb_iff.mp q).elim (fun z => h1 ((lg_cmp_lt _ _).mpr z)) (fun z => Int32.not_le.mpr z.2 h3))], ht⟩) (fun q h => by cases h) dX1_before_42
      · refine lv_iconst (v := 1) hx hb dX1_before_37 (by decide) ?_
        refine lv_goto (tgt := 42) hx hb dX1_before_38 (by decide) ?_
        exact W.zret hx hb hr rfl (fun t ht _ => ⟨by rw [if_pos (ft_sb_iff.mpr (Or.inr ⟨(lg_cmp_eq _ _).mp h2, Int32.not_le.mp h3⟩))], ht⟩) (fun q h => by cases h) dX1_before_42
set_option maxHeartbeats 4000000 in
set_option maxRecDepth 100000 in
theorem cm_many (l : Launch) (G : va_G) (a : Nat → Nat) (C : Nat → ClassId) (T : Nat → Bool) (K D : Nat → Int64) (w : Nat → Int32) (th : Int32) : Met l yX1_many wsX1_many rm0 (va_Pc [.ref (a 0)] (rM G a C T K D w th)) (rd_Q (.int (nI (ft_cnt T 200)))) 0 0 (fun _ => False) := by
  refine q_open (cc := cX1_many) (maxL := 3) (ret := (some .int)) (by decide) rfl (Nat.le_of_ble_eq_true rfl) ?_
  intro p e s m below meth c ls S hr hlk hB hl
  obtain ⟨hx, hb, hml, hown, hts⟩ := id S
  obtain ⟨hP, hK⟩ := hB
  have hin : ∀ w ∈ u_ws RX1 TX1 5, w ∈ wsX1_many := fun w h => tb_cons w (hinX1 w h)
  have hl : lv_has ls 3 [(0, .ref (a 0))] := hl
  refine lv_iconst (v := 0) hx hb dX1_many_0 (by decide) ?_
  refine q_topi (y := nI (ft_cnt T 0)) rfl ?_
  refine lv_istore_n hx hb dX1_many_1 rfl hl (by decide) rfl (fun ls hl => ?_)
  have hl : lv_has ls 3 [(1, .int (nI (ft_cnt T 0))), (0, .ref (a 0))] := hl
  refine lv_iconst (v := 0) hx hb dX1_many_2 (by decide) ?_
  refine lv_istore_n hx hb dX1_many_3 rfl hl (by decide) rfl (fun ls hl => ?_)
  have hl : lv_has ls 3 [(2, .int 0), (1, .int (nI (ft_cnt T 0))), (0, .ref (a 0))] := hl
  have loop : ∀ (k : Nat) (i : Nat), i + k = 200 → ∀ ls : Array Slot, lv_has ls 3 [(2, .int (nI i)), (1, .int (nI (ft_cnt T i))), (0, .ref (a 0))] → W p l e rm0 s m ([.ref (a 0)] : List Value).toArray below meth c s.heap [] 0 0 (MQ below (rd_Q (.int (nI (ft_cnt T 200)))) ([.ref (a 0)] : List Value).toArray s 0 0 (fun _ => False)) (F0 m 4 ls []) := by
    intro k
    induction k with
    | zero =>
      intro i hi ls hl
      refine lv_iload_n hx hb dX1_many_4 rfl (lv_at hl 0 rfl) ?_
      refine lv_sipush (v := 200) hx hb dX1_many_5 (by decide) ?_
      refine lv_icmp_ge (tgt := 29) hx hb dX1_many_8 (by decide) (fun _ => ?_) (fun hc => absurd (nI_le (a := 200) (by omega) (by omega)) hc)
      refine lv_iload_n hx hb dX1_many_29 rfl (lv_at hl 1 rfl) ?_
      have hi : i = 200 := hi
      exact W.iret hx hb hr (fun t ht _ => ⟨by rw [hi], ht⟩) (fun q h => by cases h) dX1_many_30
    | succ k ih =>
      intro i hi ls hl
      refine lv_iload_n hx hb dX1_many_4 rfl (lv_at hl 0 rfl) ?_
      refine lv_sipush (v := 200) hx hb dX1_many_5 (by decide) ?_
      refine lv_icmp_ge (tgt := 29) hx hb dX1_many_8 (by decide) (fun hc => absurd hc (nI_ge (b := 200) (by omega) (by decide))) (fun _ => ?_)
      refine lv_aload_n hx hb dX1_many_11 rfl (lv_at hl 2 rfl) ?_
      refine va_get (D := G) (ci := 1) (C := RX1) (T := TX1) (N := 5) hx hb hts hin hown hK hP 0 rfl rfl 0 (by decide) (hts _ (tb_cons _ w_fl_X1_9)) (fun _ h9 => h9) rfl dX1_many_12 ?_
      refine lv_iload_n hx hb dX1_many_15 rfl (lv_at hl 0 rfl) ?_
      refine q_zald hx hb hK hP 1 0 rfl rfl (i) rfl (by omega) (by decide) dX1_many_16 ?_
      by_cases hT : T i = true
      · refine q_topi (y := 1) (ft_tb_t hT) ?_
        refine lv_if_eq (tgt := 23) hx hb dX1_many_17 (by decide) (fun hc => absurd hc (by decide)) (fun _ => ?_)
        refine lv_iinc (k := 1) (v := nI (ft_cnt T (i + 1))) hx hb dX1_many_20 hl rfl (ft_cnt_t hT) (by decide) rfl (fun ls hl => ?_)
        have hl : lv_has ls 3 [(1, .int (nI (ft_cnt T (i + 1)))), (2, .int (nI i)), (0, .ref (a 0))] := hl
        refine lv_iinc (k := 1) (v := nI (i + 1)) hx hb dX1_many_23 hl rfl (nI_succ i).symm (by decide) rfl (fun ls hl => ?_)
        have hl : lv_has ls 3 [(2, .int (nI (i + 1))), (1, .int (nI (ft_cnt T (i + 1)))), (0, .ref (a 0))] := hl
        refine lv_goto (tgt := 4) hx hb dX1_many_26 (by decide) ?_
        exact ih (i + 1) (by omega) ls hl
      · refine q_topi (y := 0) (ft_tb_f hT) ?_
        refine lv_if_eq (tgt := 23) hx hb dX1_many_17 (by decide) (fun _ => ?_) (fun hc => absurd (rfl) hc)
        refine lv_iinc (k := 0) (v := nI (i + 1)) hx hb dX1_many_23 hl rfl (nI_succ i).symm (by decide) rfl (fun ls hl => ?_)
        have hl : lv_has ls 3 [(2, .int (nI (i + 1))), (1, .int (nI (ft_cnt T i))), (0, .ref (a 0))] := hl
        refine lv_goto (tgt := 4) hx hb dX1_many_26 (by decide) ?_
        exact ih (i + 1) (by omega) ls (by rw [ft_cnt_f hT]; exact hl)
  exact loop 200 0 (by omega) ls hl
set_option maxHeartbeats 4000000 in
set_option maxRecDepth 100000 in
theorem cm_place (l : Launch) (G : va_G) (a : Nat → Nat) (C : Nat → ClassId) (T : Nat → Bool) (K D : Nat → Int64) (w : Nat → Int32) (th : Int32) {j : Nat} (hj : j < 200) : Met l yX1_place wsX1_place { frames := 1, cells := 0, slots := 0, locals := 30 } (va_Pc [.ref (a 0), .int (nI j)] (rM G a C T K D w th)) (rd_Q (.int (nI (ft_cnt (fun k => T k && ft_sb K (K j) (nI j) k) 200)))) 0 0 (fun _ => False) := by
  refine q_open (cc := cX1_place) (maxL := 4) (ret := (some .int)) (by decide) rfl (Nat.le_of_ble_eq_true rfl) ?_
  intro p e s m below meth c ls S hr hlk hB hl
  obtain ⟨hx, hb, hml, hown, hts⟩ := id S
  obtain ⟨hP, hK⟩ := hB
  have hin : ∀ w ∈ u_ws RX1 TX1 5, w ∈ wsX1_place := fun w h => tb_cons w (hinX1 w h)
  have hl : lv_has ls 4 [(0, .ref (a 0)), (1, .int (nI j))] := hl
  refine lv_iconst (v := 0) hx hb dX1_place_0 (by decide) ?_
  refine q_topi (y := nI (ft_cnt (fun k => T k && ft_sb K (K j) (nI j) k) 0)) rfl ?_
  refine lv_istore_n hx hb dX1_place_1 rfl hl (by decide) rfl (fun ls hl => ?_)
  have hl : lv_has ls 4 [(2, .int (nI (ft_cnt (fun k => T k && ft_sb K (K j) (nI j) k) 0))), (0, .ref (a 0)), (1, .int (nI j))] := hl
  refine lv_iconst (v := 0) hx hb dX1_place_2 (by decide) ?_
  refine lv_istore_n hx hb dX1_place_3 rfl hl (by decide) rfl (fun ls hl => ?_)
  have hl : lv_has ls 4 [(3, .int 0), (2, .int (nI (ft_cnt (fun k => T k && ft_sb K (K j) (nI j) k) 0))), (0, .ref (a 0)), (1, .int (nI j))] := hl
  have loop : ∀ (k : Nat) (i : Nat), i + k = 200 → ∀ ls : Array Slot, lv_has ls 4 [(3, .int (nI i)), (2, .int (nI (ft_cnt (fun k => T k && ft_sb K (K j) (nI j) k) i))), (0, .ref (a 0)), (1, .int (nI j))] → W p l e { frames := 1, cells := 0, slots := 0, locals := 30 } s m ([.ref (a 0), .int (nI j)] : List Value).toArray below meth c s.heap [] 0 0 (MQ below (rd_Q (.int (nI (ft_cnt (fun k => T k && ft_sb K (K j) (nI j) k) 200)))) ([.ref (a 0), .int (nI j)] : List Value).toArray s 0 0 (fun _ => False)) (F0 m 4 ls []) := by
    intro k
    induction k with
    | zero =>
      intro i hi ls hl
      refine lv_iload_n hx hb dX1_place_4 rfl (lv_at hl 0 rfl) ?_
      refine lv_sipush (v := 200) hx hb dX1_place_5 (by decide) ?_
      refine lv_icmp_ge (tgt := 38) hx hb dX1_place_8 (by decide) (fun _ => ?_) (fun hc => absurd (nI_le (a := 200) (by omega) (by omega)) hc)
      refine lv_iload_n hx hb dX1_place_38 rfl (lv_at hl 1 rfl) ?_
      have hi : i = 200 := hi
      exact W.iret hx hb hr (fun t ht _ => ⟨by rw [hi], ht⟩) (fun q h => by cases h) dX1_place_39
    | succ k ih =>
      intro i hi ls hl
      refine lv_iload_n hx hb dX1_place_4 rfl (lv_at hl 0 rfl) ?_
      refine lv_sipush (v := 200) hx hb dX1_place_5 (by decide) ?_
      refine lv_icmp_ge (tgt := 38) hx hb dX1_place_8 (by decide) (fun hc => absurd hc (nI_ge (b := 200) (by omega) (by decide))) (fun _ => ?_)
      refine lv_aload_n hx hb dX1_place_11 rfl (lv_at hl 2 rfl) ?_
      refine va_get (D := G) (ci := 1) (C := RX1) (T := TX1) (N := 5) hx hb hts hin hown hK hP 0 rfl rfl 0 (by decide) (hts _ (tb_cons _ w_fl_X1_9)) (fun _ h9 => h9) rfl dX1_place_12 ?_
      refine lv_iload_n hx hb dX1_place_15 rfl (lv_at hl 0 rfl) ?_
      refine q_zald hx hb hK hP 1 0 rfl rfl (i) rfl (by omega) (by decide) dX1_place_16 ?_
      by_cases hT : T i = true
      · refine q_topi (y := 1) (ft_tb_t hT) ?_
        refine lv_if_eq (tgt := 32) hx hb dX1_place_17 (by decide) (fun hc => absurd hc (by decide)) (fun _ => ?_)
        refine lv_aload_n hx hb dX1_place_20 rfl (lv_at hl 2 rfl) ?_
        refine lv_iload_n hx hb dX1_place_21 rfl (lv_at hl 0 rfl) ?_
        refine lv_iload_n hx hb dX1_place_22 rfl (lv_at hl 3 rfl) ?_
        refine rd_call (W.runV (As := [.int (nI i), .int (nI j)]) (rest := []) S (cm_before l G a C T K D w th (j := i) (f := j) (by omega) hj) (cwV 2 hts (gX1_62 tb_cons) rfl rfl rfl (by decide +kernel) ⟨Nat.le_of_ble_eq_true rfl, Nat.le_of_ble_eq_true rfl⟩) (pM_V hP hK) rfl rfl hl.1 rfl (lv_room (Nat.le_of_ble_eq_true rfl)) dX1_place_23 ⟨Nat.zero_le _, Nat.zero_le _⟩) ?_
        by_cases hq : ft_sb K (K j) (nI j) i = true
        · rw [if_pos hq]
          refine lv_if_eq (tgt := 32) hx hb dX1_place_26 (by decide) (fun hc => absurd hc (by decide)) (fun _ => ?_)
          refine lv_iinc (k := 1) (v := nI (ft_cnt (fun k => T k && ft_sb K (K j) (nI j) k) (i + 1))) hx hb dX1_place_29 hl rfl (ft_cnt_t (P := (fun k => T k && ft_sb K (K j) (nI j) k)) (yand hT hq)) (by decide) rfl (fun ls hl => ?_)
          have hl : lv_has ls 4 [(2, .int (nI (ft_cnt (fun k => T k && ft_sb K (K j) (nI j) k) (i + 1)))), (3, .int (nI i)), (0, .ref (a 0)), (1, .int (nI j))] := hl
          refine lv_iinc (k := 1) (v := nI (i + 1)) hx hb dX1_place_32 hl rfl (nI_succ i).symm (by decide) rfl (fun ls hl => ?_)
          have hl : lv_has ls 4 [(3, .int (nI (i + 1))), (2, .int (nI (ft_cnt (fun k => T k && ft_sb K (K j) (nI j) k) (i + 1)))), (0, .ref (a 0)), (1, .int (nI j))] := hl
          refine lv_goto (tgt := 4) hx hb dX1_place_35 (by decide) ?_
          exact ih (i + 1) (by omega) ls hl
        · rw [if_neg hq]
          refine lv_if_eq (tgt := 32) hx hb dX1_place_26 (by decide) (fun _ => ?_) (fun hc => absurd (rfl) hc)
          refine lv_iinc (k := 0) (v := nI (i + 1)) hx hb dX1_place_32 hl rfl (nI_succ i).symm (by decide) rfl (fun ls hl => ?_)
          have hl : lv_has ls 4 [(3, .int (nI (i + 1))), (2, .int (nI (ft_cnt (fun k => T k && ft_sb K (K j) (nI j) k) i))), (0, .ref (a 0)), (1, .int (nI j))] := hl
          refine lv_goto (tgt := 4) hx hb dX1_place_35 (by decide) ?_
          exact ih (i + 1) (by omega) ls (by rw [ft_cnt_f (P := (fun k => T k && ft_sb K (K j) (nI j) k)) (nand2 hq)]; exact hl)
      · refine q_topi (y := 0) (ft_tb_f hT) ?_
        refine lv_if_eq (tgt := 32) hx hb dX1_place_17 (by decide) (fun _ => ?_) (fun hc => absurd (rfl) hc)
        refine lv_iinc (k := 0) (v := nI (i + 1)) hx hb dX1_place_32 hl rfl (nI_succ i).symm (by decide) rfl (fun ls hl => ?_)
        have hl : lv_has ls 4 [(3, .int (nI (i + 1))), (2, .int (nI (ft_cnt (fun k => T k && ft_sb K (K j) (nI j) k) i))), (0, .ref (a 0)), (1, .int (nI j))] := hl
        refine lv_goto (tgt := 4) hx hb dX1_place_35 (by decide) ?_
        exact ih (i + 1) (by omega) ls (by rw [ft_cnt_f (P := (fun k => T k && ft_sb K (K j) (nI j) k)) (nand1 hT)]; exact hl)
  exact loop 200 0 (by omega) ls hl
set_option maxHeartbeats 4000000 in
set_option maxRecDepth 100000 in
theorem cm_all (l : Launch) (G : va_G) (a : Nat → Nat) (C : Nat → ClassId) (T : Nat → Bool) (K D : Nat → Int64) (w : Nat → Int32) (th : Int32) : Met l yX1_all wsX1_all rm0 (va_Pc [.ref (a 0)] (rM G a C T K D w th)) (rd_Q (.long (ft_W64 T w))) 0 0 (fun _ => False) := by
  refine q_open (cc := cX1_all) (maxL := 4) (ret := (some .long)) (by decide) rfl (Nat.le_of_ble_eq_true rfl) ?_
  intro p e s m below meth c ls S hr hlk hB hl
  obtain ⟨hx, hb, hml, hown, hts⟩ := id S
  obtain ⟨hP, hK⟩ := hB
  have hin : ∀ w ∈ u_ws RX1 TX1 5, w ∈ wsX1_all := fun w h => tb_cons w (hinX1 w h)
  have hl : lv_has ls 4 [(0, .ref (a 0))] := hl
  refine lv_lconst (v := 0) hx hb dX1_all_0 (by decide) ?_
  refine q_topl (y := (ft_sum (fun a b : Int64 => a + b) 0 (fun k => if T k = true then (w k).toInt64 else 0) 0)) rfl ?_
  refine lv_lstore_n hx hb dX1_all_1 rfl hl (by decide) rfl (fun ls hl => ?_)
  have hl : lv_has ls 4 [(1, .long (ft_sum (fun a b : Int64 => a + b) 0 (fun k => if T k = true then (w k).toInt64 else 0) 0)), (0, .ref (a 0))] := hl
  refine lv_iconst (v := 0) hx hb dX1_all_2 (by decide) ?_
  refine lv_istore_n hx hb dX1_all_3 rfl hl (by decide) rfl (fun ls hl => ?_)
  have hl : lv_has ls 4 [(3, .int 0), (1, .long (ft_sum (fun a b : Int64 => a + b) 0 (fun k => if T k = true then (w k).toInt64 else 0) 0)), (0, .ref (a 0))] := hl
  have loop : ∀ (k : Nat) (i : Nat), i + k = 200 → ∀ ls : Array Slot, lv_has ls 4 [(3, .int (nI i)), (1, .long (ft_sum (fun a b : Int64 => a + b) 0 (fun k => if T k = true then (w k).toInt64 else 0) i)), (0, .ref (a 0))] → W p l e rm0 s m ([.ref (a 0)] : List Value).toArray below meth c s.heap [] 0 0 (MQ below (rd_Q (.long (ft_sum (fun a b : Int64 => a + b) 0 (fun k => if T k = true then (w k).toInt64 else 0) 200))) ([.ref (a 0)] : List Value).toArray s 0 0 (fun _ => False)) (F0 m 4 ls []) := by
    intro k
    induction k with
    | zero =>
      intro i hi ls hl
      refine lv_iload_n hx hb dX1_all_4 rfl (lv_at hl 0 rfl) ?_
      refine lv_sipush (v := 200) hx hb dX1_all_5 (by decide) ?_
      refine lv_icmp_ge (tgt := 36) hx hb dX1_all_8 (by decide) (fun _ => ?_) (fun hc => absurd (nI_le (a := 200) (by omega) (by omega)) hc)
      refine lv_lload_n hx hb dX1_all_36 rfl (lv_at hl 1 rfl) ?_
      have hi : i = 200 := hi
      exact W.lret hx hb hr (fun t ht _ => ⟨by rw [hi], ht⟩) (fun q h => by cases h) dX1_all_37
    | succ k ih =>
      intro i hi ls hl
      refine lv_iload_n hx hb dX1_all_4 rfl (lv_at hl 0 rfl) ?_
      refine lv_sipush (v := 200) hx hb dX1_all_5 (by decide) ?_
      refine lv_icmp_ge (tgt := 36) hx hb dX1_all_8 (by decide) (fun hc => absurd hc (nI_ge (b := 200) (by omega) (by decide))) (fun _ => ?_)
      refine lv_aload_n hx hb dX1_all_11 rfl (lv_at hl 2 rfl) ?_
      refine va_get (D := G) (ci := 1) (C := RX1) (T := TX1) (N := 5) hx hb hts hin hown hK hP 0 rfl rfl 0 (by decide) (hts _ (tb_cons _ w_fl_X1_9)) (fun _ h9 => h9) rfl dX1_all_12 ?_
      refine lv_iload_n hx hb dX1_all_15 rfl (lv_at hl 0 rfl) ?_
      refine q_zald hx hb hK hP 1 0 rfl rfl (i) rfl (by omega) (by decide) dX1_all_16 ?_
      by_cases hT : T i = true
      · refine q_topi (y := 1) (ft_tb_t hT) ?_
        refine lv_if_eq (tgt := 30) hx hb dX1_all_17 (by decide) (fun hc => absurd hc (by decide)) (fun _ => ?_)
        refine lv_lload_n hx hb dX1_all_20 rfl (lv_at hl 1 rfl) ?_
        refine lv_aload_n hx hb dX1_all_21 rfl (lv_at hl 2 rfl) ?_
        refine va_get (D := G) (ci := 1) (C := RX1) (T := TX1) (N := 5) hx hb hts hin hown hK hP 0 rfl rfl 3 (by decide) (hts _ (tb_cons _ w_fl_X1_20)) (fun _ h9 => h9) rfl dX1_all_22 ?_
        refine lv_iload_n hx hb dX1_all_25 rfl (lv_at hl 0 rfl) ?_
        refine q_iald hx hb hK hP 4 3 rfl rfl (i) rfl (by omega) (by decide) dX1_all_26 ?_
        refine lv_i2l hx hb dX1_all_27 rfl ?_
        refine lv_ladd hx hb dX1_all_28 ?_
        refine q_topl (y := (ft_sum (fun a b : Int64 => a + b) 0 (fun k => if T k = true then (w k).toInt64 else 0) (i + 1))) (ft_sum_t (op := fun a b : Int64 => a + b) (P := T) (f := fun k => (w k).toInt64) hT) ?_
        refine lv_lstore_n hx hb dX1_all_29 rfl hl (by decide) rfl (fun ls hl => ?_)
        have hl : lv_has ls 4 [(1, .long (ft_sum (fun a b : Int64 => a + b) 0 (fun k => if T k = true then (w k).toInt64 else 0) (i + 1))), (3, .int (nI i)), (0, .ref (a 0))] := hl
        refine lv_iinc (k := 1) (v := nI (i + 1)) hx hb dX1_all_30 hl rfl (nI_succ i).symm (by decide) rfl (fun ls hl => ?_)
        have hl : lv_has ls 4 [(3, .int (nI (i + 1))), (1, .long (ft_sum (fun a b : Int64 => a + b) 0 (fun k => if T k = true then (w k).toInt64 else 0) (i + 1))), (0, .ref (a 0))] := hl
        refine lv_goto (tgt := 4) hx hb dX1_all_33 (by decide) ?_
        exact ih (i + 1) (by omega) ls (lv_sub hl [0, 1, 2] rfl)
      · refine q_topi (y := 0) (ft_tb_f hT) ?_
        refine lv_if_eq (tgt := 30) hx hb dX1_all_17 (by decide) (fun _ => ?_) (fun hc => absurd (rfl) hc)
        refine lv_iinc (k := 0) (v := nI (i + 1)) hx hb dX1_all_30 hl rfl (nI_succ i).symm (by decide) rfl (fun ls hl => ?_)
        have hl : lv_has ls 4 [(3, .int (nI (i + 1))), (1, .long (ft_sum (fun a b : Int64 => a + b) 0 (fun k => if T k = true then (w k).toInt64 else 0) i)), (0, .ref (a 0))] := hl
        refine lv_goto (tgt := 4) hx hb dX1_all_33 (by decide) ?_
        exact ih (i + 1) (by omega) ls (by rw [ft_sum_f (fun a => Int64.add_zero a) hT]; exact hl)
  exact loop 200 0 (by omega) ls hl
set_option maxHeartbeats 4000000 in
set_option maxRecDepth 100000 in
theorem cm_lead (l : Launch) (G : va_G) (a : Nat → Nat) (C : Nat → ClassId) (T : Nat → Bool) (K D : Nat → Int64) (w : Nat → Int32) (th : Int32) {j : Nat} (hj : j < 200) : Met l yX1_lead wsX1_lead rm0 (va_Pc [.ref (a 0), .int (nI j)] (rM G a C T K D w th)) (rd_Q (.long (ft_ld T K w (K j)))) 0 0 (fun _ => False) := by
  refine q_open (cc := cX1_lead) (maxL := 5) (ret := (some .long)) (by decide) rfl (Nat.le_of_ble_eq_true rfl) ?_
  intro p e s m below meth c ls S hr hlk hB hl
  obtain ⟨hx, hb, hml, hown, hts⟩ := id S
  obtain ⟨hP, hK⟩ := hB
  have hin : ∀ w ∈ u_ws RX1 TX1 5, w ∈ wsX1_lead := fun w h => tb_cons w (hinX1 w h)
  have hl : lv_has ls 5 [(0, .ref (a 0)), (1, .int (nI j))] := hl
  refine lv_lconst (v := 0) hx hb dX1_lead_0 (by decide) ?_
  refine q_topl (y := (ft_sum (fun a b : Int64 => a + b) 0 (fun k => if T k = true then (K j - K k) * (w k).toInt64 else 0) 0)) rfl ?_
  refine lv_lstore_n hx hb dX1_lead_1 rfl hl (by decide) rfl (fun ls hl => ?_)
  have hl : lv_has ls 5 [(2, .long (ft_sum (fun a b : Int64 => a + b) 0 (fun k => if T k = true then (K j - K k) * (w k).toInt64 else 0) 0)), (0, .ref (a 0)), (1, .int (nI j))] := hl
  refine lv_iconst (v := 0) hx hb dX1_lead_2 (by decide) ?_
  refine lv_istore hx hb dX1_lead_3 hl (by decide) rfl (fun ls hl => ?_)
  have hl : lv_has ls 5 [(4, .int 0), (2, .long (ft_sum (fun a b : Int64 => a + b) 0 (fun k => if T k = true then (K j - K k) * (w k).toInt64 else 0) 0)), (0, .ref (a 0)), (1, .int (nI j))] := hl
  have loop : ∀ (k : Nat) (i : Nat), i + k = 200 → ∀ ls : Array Slot, lv_has ls 5 [(4, .int (nI i)), (2, .long (ft_sum (fun a b : Int64 => a + b) 0 (fun k => if T k = true then (K j - K k) * (w k).toInt64 else 0) i)), (0, .ref (a 0)), (1, .int (nI j))] → W p l e rm0 s m ([.ref (a 0), .int (nI j)] : List Value).toArray below meth c s.heap [] 0 0 (MQ below (rd_Q (.long (ft_sum (fun a b : Int64 => a + b) 0 (fun k => if T k = true then (K j - K k) * (w k).toInt64 else 0) 200))) ([.ref (a 0), .int (nI j)] : List Value).toArray s 0 0 (fun _ => False)) (F0 m 5 ls []) := by
    intro k
    induction k with
    | zero =>
      intro i hi ls hl
      refine lv_iload hx hb dX1_lead_5 (lv_at hl 0 rfl) ?_
      refine lv_sipush (v := 200) hx hb dX1_lead_7 (by decide) ?_
      refine lv_icmp_ge (tgt := 55) hx hb dX1_lead_10 (by decide) (fun _ => ?_) (fun hc => absurd (nI_le (a := 200) (by omega) (by omega)) hc)
      refine lv_lload_n hx hb dX1_lead_55 rfl (lv_at hl 1 rfl) ?_
      have hi : i = 200 := hi
      exact W.lret hx hb hr (fun t ht _ => ⟨by rw [hi], ht⟩) (fun q h => by cases h) dX1_lead_56
    | succ k ih =>
      intro i hi ls hl
      refine lv_iload hx hb dX1_lead_5 (lv_at hl 0 rfl) ?_
      refine lv_sipush (v := 200) hx hb dX1_lead_7 (by decide) ?_
      refine lv_icmp_ge (tgt := 55) hx hb dX1_lead_10 (by decide) (fun hc => absurd hc (nI_ge (b := 200) (by omega) (by decide))) (fun _ => ?_)
      refine lv_aload_n hx hb dX1_lead_13 rfl (lv_at hl 2 rfl) ?_
      refine va_get (D := G) (ci := 1) (C := RX1) (T := TX1) (N := 5) hx hb hts hin hown hK hP 0 rfl rfl 0 (by decide) (hts _ (tb_cons _ w_fl_X1_9)) (fun _ h9 => h9) rfl dX1_lead_14 ?_
      refine lv_iload hx hb dX1_lead_17 (lv_at hl 0 rfl) ?_
      refine q_zald hx hb hK hP 1 0 rfl rfl (i) rfl (by omega) (by decide) dX1_lead_19 ?_
      by_cases hT : T i = true
      · refine q_topi (y := 1) (ft_tb_t hT) ?_
        refine lv_if_eq (tgt := 49) hx hb dX1_lead_20 (by decide) (fun hc => absurd hc (by decide)) (fun _ => ?_)
        refine lv_lload_n hx hb dX1_lead_23 rfl (lv_at hl 1 rfl) ?_
        refine lv_aload_n hx hb dX1_lead_24 rfl (lv_at hl 2 rfl) ?_
        refine va_get (D := G) (ci := 1) (C := RX1) (T := TX1) (N := 5) hx hb hts hin hown hK hP 0 rfl rfl 1 (by decide) (hts _ (tb_cons _ w_fl_X1_13)) (fun _ h9 => h9) rfl dX1_lead_25 ?_
        refine lv_iload_n hx hb dX1_lead_28 rfl (lv_at hl 3 rfl) ?_
        refine q_lald hx hb hK hP 2 1 rfl rfl (j) rfl hj (by decide) dX1_lead_29 ?_
        refine lv_aload_n hx hb dX1_lead_30 rfl (lv_at hl 2 rfl) ?_
        refine va_get (D := G) (ci := 1) (C := RX1) (T := TX1) (N := 5) hx hb hts hin hown hK hP 0 rfl rfl 1 (by decide) (hts _ (tb_cons _ w_fl_X1_13)) (fun _ h9 => h9) rfl dX1_lead_31 ?_
        refine lv_iload hx hb dX1_lead_34 (lv_at hl 0 rfl) ?_
        refine q_lald hx hb hK hP 2 1 rfl rfl (i) rfl (by omega) (by decide) dX1_lead_36 ?_
        refine lv_lsub hx hb dX1_lead_37 ?_
        refine lv_aload_n hx hb dX1_lead_38 rfl (lv_at hl 2 rfl) ?_
        refine va_get (D := G) (ci := 1) (C := RX1) (T := TX1) (N := 5) hx hb hts hin hown hK hP 0 rfl rfl 3 (by decide) (hts _ (tb_cons _ w_fl_X1_20)) (fun _ h9 => h9) rfl dX1_lead_39 ?_
        refine lv_iload hx hb dX1_lead_42 (lv_at hl 0 rfl) ?_
        refine q_iald hx hb hK hP 4 3 rfl rfl (i) rfl (by omega) (by decide) dX1_lead_44 ?_
        refine lv_i2l hx hb dX1_lead_45 rfl ?_
        refine lv_lmul hx hb dX1_lead_46 ?_
        refine lv_ladd hx hb dX1_lead_47 ?_
        refine q_topl (y := (ft_sum (fun a b : Int64 => a + b) 0 (fun k => if T k = true then (K j - K k) * (w k).toInt64 else 0) (i + 1))) (ft_sum_t (op := fun a b : Int64 => a + b) (P := T) (f := fun k => (K j - K k) * (w k).toInt64) hT) ?_
        refine lv_lstore_n hx hb dX1_lead_48 rfl hl (by decide) rfl (fun ls hl => ?_)
        have hl : lv_has ls 5 [(2, .long (ft_sum (fun a b : Int64 => a + b) 0 (fun k => if T k = true then (K j - K k) * (w k).toInt64 else 0) (i + 1))), (4, .int (nI i)), (0, .ref (a 0)), (1, .int (nI j))] := hl
        refine lv_iinc (k := 1) (v := nI (i + 1)) hx hb dX1_lead_49 hl rfl (nI_succ i).symm (by decide) rfl (fun ls hl => ?_)
        have hl : lv_has ls 5 [(4, .int (nI (i + 1))), (2, .long (ft_sum (fun a b : Int64 => a + b) 0 (fun k => if T k = true then (K j - K k) * (w k).toInt64 else 0) (i + 1))), (0, .ref (a 0)), (1, .int (nI j))] := hl
        refine lv_goto (tgt := 5) hx hb dX1_lead_52 (by decide) ?_
        exact ih (i + 1) (by omega) ls (lv_sub hl [0, 1, 2, 3] rfl)
      · refine q_topi (y := 0) (ft_tb_f hT) ?_
        refine lv_if_eq (tgt := 49) hx hb dX1_lead_20 (by decide) (fun _ => ?_) (fun hc => absurd (rfl) hc)
        refine lv_iinc (k := 0) (v := nI (i + 1)) hx hb dX1_lead_49 hl rfl (nI_succ i).symm (by decide) rfl (fun ls hl => ?_)
        have hl : lv_has ls 5 [(4, .int (nI (i + 1))), (2, .long (ft_sum (fun a b : Int64 => a + b) 0 (fun k => if T k = true then (K j - K k) * (w k).toInt64 else 0) i)), (0, .ref (a 0)), (1, .int (nI j))] := hl
        refine lv_goto (tgt := 5) hx hb dX1_lead_52 (by decide) ?_
        exact ih (i + 1) (by omega) ls (by rw [ft_sum_f (fun a => Int64.add_zero a) hT]; exact hl)
  exact loop 200 0 (by omega) ls hl
