set_option maxHeartbeats 4000000 in
set_option maxRecDepth 100000 in
theorem cm_first (l : Launch) (G : va_G) (a : Nat → Nat) (C : Nat → ClassId) {A : Nat → Prop} (hD : ∀ T K D w th, va_D A (wM a C T K D w th)) (T : Nat → Bool) (K D : Nat → Int64) (w : Nat → Int32) (th : Int32) (lo hi2 : Int64) : Met l yX1_first wsX1_first { frames := 1, cells := 0, slots := 0, locals := 30 } (va_Pc [.ref (a 0), .long lo, .long hi2] (rM G a C T K D w th)) (wr_Q G vwCl (some (.int (ft_or (ft_gf (ft_mnS (fun n => T n && (decide (lo ≤ K n) && decide (K n ≤ hi2))) (fun n c => decide (D n < D c))) none 200)))) (wM a C T K D w (ft_ot (ft_gf (ft_mnS (fun n => T n && (decide (lo ≤ K n) && decide (K n ≤ hi2))) (fun n c => decide (D n < D c))) none 200))) A) 0 0 A := by
  refine q_open (cc := cX1_first) (maxL := 7) (ret := (some .int)) (by decide) rfl (Nat.le_of_ble_eq_true rfl) ?_
  intro p e s m below meth c ls S hr hlk hB hl
  obtain ⟨hx, hb, hml, hown, hts⟩ := id S
  obtain ⟨hP, hK⟩ := hB
  have hin : ∀ w ∈ u_ws RX1 TX1 5, w ∈ wsX1_first := fun w h => tb_cons w (hinX1 w h)
  have hS : va_S A s.heap s.heap [] := va_S.rf
  have hl : lv_has ls 7 [(0, .ref (a 0)), (1, .long lo), (3, .long hi2)] := hl
  refine lv_aload_n hx hb dX1_first_0 rfl (lv_at hl 0 rfl) ?_
  refine lv_iconst (v := 0) hx hb dX1_first_1 (by decide) ?_
  refine va_put (D := G) (ci := 1) (v := .int 0) (ty := .int) (C := RX1) (T := TX1) (N := 5) hx hb hts hin tyX1 tyX1_ok nmX1 hown hK hP (hD _ _ _ _ _) hS 0 rfl rfl 4 (by decide) (hts _ (tb_cons _ w_fl_X1_24)) (fun _ h9 => h9) rfl (by decide +kernel) rfl rfl (Nat.le_of_ble_eq_true rfl) dX1_first_2 (fun H locs hP _ hS => ?_)
  have hP : va_P G vwCl (wM a C T K D w 0) H := hP
  refine lv_iconst (v := (-1)) hx hb dX1_first_5 (by decide) ?_
  refine q_topi (y := ft_ob none) rfl ?_
  refine lv_istore hx hb dX1_first_6 hl (by decide) rfl (fun ls hl => ?_)
  have hl : lv_has ls 7 [(5, .int (ft_ob none)), (0, .ref (a 0)), (1, .long lo), (3, .long hi2)] := hl
  refine lv_iconst (v := 0) hx hb dX1_first_8 (by decide) ?_
  refine lv_istore hx hb dX1_first_9 hl (by decide) rfl (fun ls hl => ?_)
  have hl : lv_has ls 7 [(6, .int 0), (5, .int (ft_ob none)), (0, .ref (a 0)), (1, .long lo), (3, .long hi2)] := hl
  have loop : ∀ (k : Nat) (i : Nat) (acc : Option Nat), i + k = 200 → ft_gf (ft_mnS (fun n => T n && (decide (lo ≤ K n) && decide (K n ≤ hi2))) (fun n c => decide (D n < D c))) none i = acc → (∀ b, acc = some b → b < 200) → ∀ (H : Heap) (locs : List Loc), va_P G vwCl (wM a C T K D w 0) H → va_S A s.heap H locs → ∀ ls : Array Slot, lv_has ls 7 [(6, .int (nI i)), (5, .int (ft_ob acc)), (0, .ref (a 0)), (1, .long lo), (3, .long hi2)] → W p l e { frames := 1, cells := 0, slots := 0, locals := 30 } s m ([.ref (a 0), .long lo, .long hi2] : List Value).toArray below meth c H locs 0 0 (MQ below (wr_Q G vwCl (some (.int (ft_or (ft_gf (ft_mnS (fun n => T n && (decide (lo ≤ K n) && decide (K n ≤ hi2))) (fun n c => decide (D n < D c))) none 200)))) (wM a C T K D w (ft_ot (ft_gf (ft_mnS (fun n => T n && (decide (lo ≤ K n) && decide (K n ≤ hi2))) (fun n c => decide (D n < D c))) none 200))) A) ([.ref (a 0), .long lo, .long hi2] : List Value).toArray s 0 0 A) (F0 m 11 ls []) := by
    intro k
    induction k with
    | zero =>
      intro i acc hi he hbb H locs hP hS ls hl
      refine lv_iload hx hb dX1_first_11 (lv_at hl 0 rfl) ?_
      refine lv_sipush (v := 200) hx hb dX1_first_13 (by decide) ?_
      refine lv_icmp_ge (tgt := 87) hx hb dX1_first_16 (by decide) (fun _ => ?_) (fun hc => absurd (nI_le (a := 200) (by omega) (by omega)) hc)
      have e9 : i = 200 := hi
      rw [e9] at he
      rw [he]
      refine lv_iload hx hb dX1_first_87 (lv_at hl 1 rfl) ?_
      refine lv_iconst (v := (-1)) hx hb dX1_first_89 (by decide) ?_
      cases acc with
      | none =>
        refine lv_icmp_ne (tgt := 101) hx hb dX1_first_90 (by decide) (fun hc => absurd (rfl) hc) (fun _ => ?_)
        refine lv_aload_n hx hb dX1_first_93 rfl (lv_at hl 2 rfl) ?_
        refine lv_iconst (v := 1) hx hb dX1_first_94 (by decide) ?_
        refine wr_call (W.runV (As := [.int 1]) (rest := []) S (cm_fail l G a C hD T K D w 0) (cwV 1 hts (gX1_52 tb_cons) rfl rfl rfl (by decide +kernel) ⟨Nat.le_of_ble_eq_true rfl, Nat.le_of_ble_eq_true rfl⟩) (pM_V hP hK) rfl rfl hl.1 rfl (lv_room (Nat.le_of_ble_eq_true rfl)) dX1_first_95 ⟨Nat.zero_le _, Nat.zero_le _⟩) hS (fun _ h => h) (fun H locs hP hS _ _ => ?_)
        have hP : va_P G vwCl (wM a C T K D w 1) H := hP
        refine W.eq (g2 := F0 m 98 ls [.int 0]) rfl ?_
        refine lv_goto (tgt := 103) hx hb dX1_first_98 (by decide) ?_
        exact W.iret hx hb hr (fun t ht _ => ⟨rfl, by rw [ht]; exact hP, hS.F ht⟩) hS.2.2 dX1_first_103
      | some b =>
        refine lv_icmp_ne (tgt := 101) hx hb dX1_first_90 (by decide) (fun _ => ?_) (fun hc => absurd hc (nI_ne_m1 (hbb b rfl)))
        refine lv_iload hx hb dX1_first_101 (lv_at hl 1 rfl) ?_
        exact W.iret hx hb hr (fun t ht _ => ⟨rfl, by rw [ht]; exact hP, hS.F ht⟩) hS.2.2 dX1_first_103
    | succ k ih =>
      intro i acc hi he hbb H locs hP hS ls hl
      refine lv_iload hx hb dX1_first_11 (lv_at hl 0 rfl) ?_
      refine lv_sipush (v := 200) hx hb dX1_first_13 (by decide) ?_
      refine lv_icmp_ge (tgt := 87) hx hb dX1_first_16 (by decide) (fun hc => absurd hc (nI_ge (b := 200) (by omega) (by decide))) (fun _ => ?_)
      refine lv_aload_n hx hb dX1_first_19 rfl (lv_at hl 2 rfl) ?_
      refine va_get (D := G) (ci := 1) (C := RX1) (T := TX1) (N := 5) hx hb hts hin hown hK hP 0 rfl rfl 0 (by decide) (hts _ (tb_cons _ w_fl_X1_9)) (fun _ h9 => h9) rfl dX1_first_20 ?_
      refine lv_iload hx hb dX1_first_23 (lv_at hl 0 rfl) ?_
      refine q_zald hx hb hK hP 1 0 rfl rfl (i) rfl (by omega) (by decide) dX1_first_25 ?_
      by_cases hT : T i = true
      · refine q_topi (y := 1) (ft_tb_t hT) ?_
        refine lv_if_eq (tgt := 81) hx hb dX1_first_26 (by decide) (fun hc => absurd hc (by decide)) (fun _ => ?_)
        refine lv_aload_n hx hb dX1_first_29 rfl (lv_at hl 2 rfl) ?_
        refine va_get (D := G) (ci := 1) (C := RX1) (T := TX1) (N := 5) hx hb hts hin hown hK hP 0 rfl rfl 1 (by decide) (hts _ (tb_cons _ w_fl_X1_13)) (fun _ h9 => h9) rfl dX1_first_30 ?_
        refine lv_iload hx hb dX1_first_33 (lv_at hl 0 rfl) ?_
        refine q_lald hx hb hK hP 2 1 rfl rfl (i) rfl (by omega) (by decide) dX1_first_35 ?_
        refine lv_lload_n hx hb dX1_first_36 rfl (lv_at hl 3 rfl) ?_
        refine W.lcmp hx hb dX1_first_37 ?_
        refine lv_if_lt (tgt := 81) hx hb dX1_first_38 (by decide) (fun hlo => ?_) (fun hlo => ?_)
        · refine lv_iinc (k := 0) (v := nI (i + 1)) hx hb dX1_first_81 hl rfl (nI_succ i).symm (by decide) rfl (fun ls hl => ?_)
          have hl : lv_has ls 7 [(6, .int (nI (i + 1))), (5, .int (ft_ob acc)), (0, .ref (a 0)), (1, .long lo), (3, .long hi2)] := hl
          refine lv_goto (tgt := 11) hx hb dX1_first_84 (by decide) ?_
          exact ih (i + 1) acc (by omega) (ft_gf_s he (ft_mnS_f1 (nand2 (nand1 (fun z => Int64.not_le.mpr ((lg_cmp_lt _ _).mp hlo) (of_decide_eq_true z)))))) hbb H locs hP hS ls hl
        · refine lv_aload_n hx hb dX1_first_41 rfl (lv_at hl 2 rfl) ?_
          refine va_get (D := G) (ci := 1) (C := RX1) (T := TX1) (N := 5) hx hb hts hin hown hK hP 0 rfl rfl 1 (by decide) (hts _ (tb_cons _ w_fl_X1_13)) (fun _ h9 => h9) rfl dX1_first_42 ?_
          refine lv_iload hx hb dX1_first_45 (lv_at hl 0 rfl) ?_
          refine q_lald hx hb hK hP 2 1 rfl rfl (i) rfl (by omega) (by decide) dX1_first_47 ?_
          refine lv_lload_n hx hb dX1_first_48 rfl (lv_at hl 4 rfl) ?_
          refine W.lcmp hx hb dX1_first_49 ?_
          refine lv_if_gt (tgt := 81) hx hb dX1_first_50 (by decide) (fun hhi => ?_) (fun hhi => ?_)
          · refine lv_iinc (k := 0) (v := nI (i + 1)) hx hb dX1_first_81 hl rfl (nI_succ i).symm (by decide) rfl (fun ls hl => ?_)
            have hl : lv_has ls 7 [(6, .int (nI (i + 1))), (5, .int (ft_ob acc)), (0, .ref (a 0)), (1, .long lo), (3, .long hi2)] := hl
            refine lv_goto (tgt := 11) hx hb dX1_first_84 (by decide) ?_
            exact ih (i + 1) acc (by omega) (ft_gf_s he (ft_mnS_f1 (nand2 (nand2 (fun z => Int64.not_le.mpr ((lg_cmp_gt _ _).mp hhi) (of_decide_eq_true z)))))) hbb H locs hP hS ls hl
          · have hp : (fun n => T n && (decide (lo ≤ K n) && decide (K n ≤ hi2))) i = true := (yand hT (yand (decide_eq_true (Int64.not_lt.mp (fun z => hlo ((lg_cmp_lt _ _).mpr z)))) (decide_eq_true (Int64.not_lt.mp (fun z => hhi ((lg_cmp_gt _ _).mpr z))))))
            refine lv_iload hx hb dX1_first_53 (lv_at hl 1 rfl) ?_
            refine lv_iconst (v := (-1)) hx hb dX1_first_55 (by decide) ?_
            cases acc with
            | none =>
              refine lv_icmp_eq (tgt := 77) hx hb dX1_first_56 (by decide) (fun _ => ?_) (fun hc => absurd (rfl) hc)
              refine lv_iload hx hb dX1_first_77 (lv_at hl 0 rfl) ?_
              refine lv_istore hx hb dX1_first_79 hl (by decide) rfl (fun ls hl => ?_)
              have hl : lv_has ls 7 [(5, .int (nI i)), (6, .int (nI i)), (0, .ref (a 0)), (1, .long lo), (3, .long hi2)] := hl
              refine lv_iinc (k := 1) (v := nI (i + 1)) hx hb dX1_first_81 hl rfl (nI_succ i).symm (by decide) rfl (fun ls hl => ?_)
              have hl : lv_has ls 7 [(6, .int (nI (i + 1))), (5, .int (nI i)), (0, .ref (a 0)), (1, .long lo), (3, .long hi2)] := hl
              refine lv_goto (tgt := 11) hx hb dX1_first_84 (by decide) ?_
              exact ih (i + 1) (some i) (by omega) (ft_gf_s he (ft_mnS_t hp rfl)) (fun b e => by cases e; omega) H locs hP hS ls hl
            | some b =>
              refine lv_icmp_eq (tgt := 77) hx hb dX1_first_56 (by decide) (fun hc => absurd hc (nI_ne_m1 (hbb b rfl))) (fun _ => ?_)
              refine lv_aload_n hx hb dX1_first_59 rfl (lv_at hl 2 rfl) ?_
              refine va_get (D := G) (ci := 1) (C := RX1) (T := TX1) (N := 5) hx hb hts hin hown hK hP 0 rfl rfl 2 (by decide) (hts _ (tb_cons _ w_fl_X1_17)) (fun _ h9 => h9) rfl dX1_first_60 ?_
              refine lv_iload hx hb dX1_first_63 (lv_at hl 0 rfl) ?_
              refine q_lald hx hb hK hP 3 2 rfl rfl (i) rfl (by omega) (by decide) dX1_first_65 ?_
              refine lv_aload_n hx hb dX1_first_66 rfl (lv_at hl 2 rfl) ?_
              refine va_get (D := G) (ci := 1) (C := RX1) (T := TX1) (N := 5) hx hb hts hin hown hK hP 0 rfl rfl 2 (by decide) (hts _ (tb_cons _ w_fl_X1_17)) (fun _ h9 => h9) rfl dX1_first_67 ?_
              refine lv_iload hx hb dX1_first_70 (lv_at hl 1 rfl) ?_
              refine q_lald hx hb hK hP 3 2 rfl rfl (b) rfl (hbb b rfl) (by decide) dX1_first_72 ?_
              refine W.lcmp hx hb dX1_first_73 ?_
              refine lv_if_ge (tgt := 81) hx hb dX1_first_74 (by decide) (fun hd => ?_) (fun hd => ?_)
              · refine lv_iinc (k := 0) (v := nI (i + 1)) hx hb dX1_first_81 hl rfl (nI_succ i).symm (by decide) rfl (fun ls hl => ?_)
                have hl : lv_has ls 7 [(6, .int (nI (i + 1))), (5, .int (ft_ob (some b))), (0, .ref (a 0)), (1, .long lo), (3, .long hi2)] := hl
                refine lv_goto (tgt := 11) hx hb dX1_first_84 (by decide) ?_
                exact ih (i + 1) (some b) (by omega) (ft_gf_s he (ft_mnS_f2 (fun z => Int64.not_lt.mpr ((lg_cmp_ge _ _).mp hd) (of_decide_eq_true z)))) hbb H locs hP hS ls hl
              · refine lv_iload hx hb dX1_first_77 (lv_at hl 0 rfl) ?_
                refine lv_istore hx hb dX1_first_79 hl (by decide) rfl (fun ls hl => ?_)
                have hl : lv_has ls 7 [(5, .int (nI i)), (6, .int (nI i)), (0, .ref (a 0)), (1, .long lo), (3, .long hi2)] := hl
                refine lv_iinc (k := 1) (v := nI (i + 1)) hx hb dX1_first_81 hl rfl (nI_succ i).symm (by decide) rfl (fun ls hl => ?_)
                have hl : lv_has ls 7 [(6, .int (nI (i + 1))), (5, .int (nI i)), (0, .ref (a 0)), (1, .long lo), (3, .long hi2)] := hl
                refine lv_goto (tgt := 11) hx hb dX1_first_84 (by decide) ?_
                exact ih (i + 1) (some i) (by omega) (ft_gf_s he (ft_mnS_t hp (decide_eq_true (Int64.not_le.mp (fun z => hd ((lg_cmp_ge _ _).mpr z)))))) (fun b e => by cases e; omega) H locs hP hS ls hl
      · refine q_topi (y := 0) (ft_tb_f hT) ?_
        refine lv_if_eq (tgt := 81) hx hb dX1_first_26 (by decide) (fun _ => ?_) (fun hc => absurd (rfl) hc)
        refine lv_iinc (k := 0) (v := nI (i + 1)) hx hb dX1_first_81 hl rfl (nI_succ i).symm (by decide) rfl (fun ls hl => ?_)
        have hl : lv_has ls 7 [(6, .int (nI (i + 1))), (5, .int (ft_ob acc)), (0, .ref (a 0)), (1, .long lo), (3, .long hi2)] := hl
        refine lv_goto (tgt := 11) hx hb dX1_first_84 (by decide) ?_
        exact ih (i + 1) acc (by omega) (ft_gf_s he (ft_mnS_f1 (nand1 hT))) hbb H locs hP hS ls hl
  exact loop 200 0 none (by omega) rfl (fun b e => by cases e) H locs hP hS ls hl
set_option maxHeartbeats 4000000 in
set_option maxRecDepth 100000 in
theorem cm_earliest (l : Launch) (G : va_G) (a : Nat → Nat) (C : Nat → ClassId) {A : Nat → Prop} (hD : ∀ T K D w th, va_D A (wM a C T K D w th)) (T : Nat → Bool) (K D : Nat → Int64) (w : Nat → Int32) (th : Int32) (key : Int64) : Met l yX1_earliest wsX1_earliest { frames := 2, cells := 0, slots := 0, locals := 60 } (va_Pc [.ref (a 0), .long key] (rM G a C T K D w th)) (wr_Q G vwCl (some (.int (ft_or (ft_gf (ft_mnS (fun n => T n && (decide ((-9223372036854775808) ≤ K n) && decide (K n ≤ key))) (fun n c => decide (D n < D c))) none 200)))) (wM a C T K D w (ft_ot (ft_gf (ft_mnS (fun n => T n && (decide ((-9223372036854775808) ≤ K n) && decide (K n ≤ key))) (fun n c => decide (D n < D c))) none 200))) A) 0 0 A := by
  refine q_open (cc := cX1_earliest) (maxL := 3) (ret := (some .int)) (by decide) rfl (Nat.le_of_ble_eq_true rfl) ?_
  intro p e s m below meth c ls S hr hlk hB hl
  obtain ⟨hx, hb, hml, hown, hts⟩ := id S
  obtain ⟨hP, hK⟩ := hB
  have hin : ∀ w ∈ u_ws RX1 TX1 5, w ∈ wsX1_earliest := fun w h => tb_cons w (hinX1 w h)
  have hS : va_S A s.heap s.heap [] := va_S.rf
  have hl : lv_has ls 3 [(0, .ref (a 0)), (1, .long key)] := hl
  refine lv_aload_n hx hb dX1_earliest_0 rfl (lv_at hl 0 rfl) ?_
  refine lv_ldc2 (v := (-9223372036854775808)) hx hb hown (hts _ (tb_cons _ w_k_X1_69)) dX1_earliest_1 ?_
  refine lv_lload_n hx hb dX1_earliest_4 rfl (lv_at hl 1 rfl) ?_
  refine wr_call (W.runV (As := [.long (-9223372036854775808), .long key]) (rest := []) S (cm_first l G a C hD T K D w th (-9223372036854775808) key) (cwV 2 hts (gX1_71 tb_cons) rfl rfl rfl (by decide +kernel) ⟨Nat.le_of_ble_eq_true rfl, Nat.le_of_ble_eq_true rfl⟩) (pM_V hP hK) rfl rfl hl.1 rfl (lv_room (Nat.le_of_ble_eq_true rfl)) dX1_earliest_5 ⟨Nat.zero_le _, Nat.zero_le _⟩) hS (fun _ h => h) (fun H locs hP hS _ _ => ?_)
  have hP : va_P G vwCl (wM a C T K D w (ft_ot (ft_gf (ft_mnS (fun n => T n && (decide ((-9223372036854775808) ≤ K n) && decide (K n ≤ key))) (fun n c => decide (D n < D c))) none 200))) H := hP
  refine W.eq (g2 := F0 m 8 ls [.int (ft_or (ft_gf (ft_mnS (fun n => T n && (decide ((-9223372036854775808) ≤ K n) && decide (K n ≤ key))) (fun n c => decide (D n < D c))) none 200))]) rfl ?_
  exact W.iret hx hb hr (fun t ht _ => ⟨rfl, by rw [ht]; exact hP, hS.F ht⟩) hS.2.2 dX1_earliest_8
set_option maxHeartbeats 4000000 in
set_option maxRecDepth 100000 in
theorem cm_between (l : Launch) (G : va_G) (a : Nat → Nat) (C : Nat → ClassId) {A : Nat → Prop} (hD : ∀ T K D w th, va_D A (wM a C T K D w th)) (T : Nat → Bool) (K D : Nat → Int64) (w : Nat → Int32) (th : Int32) (lo hi2 : Int64) : Met l yX1_between wsX1_between { frames := 2, cells := 0, slots := 0, locals := 60 } (va_Pc [.ref (a 0), .long lo, .long hi2] (rM G a C T K D w th)) (wr_Q G vwCl (some (.int (ft_or (ft_gf (ft_mnS (fun n => T n && (decide (lo ≤ K n) && decide (K n ≤ hi2))) (fun n c => decide (D n < D c))) none 200)))) (wM a C T K D w (ft_ot (ft_gf (ft_mnS (fun n => T n && (decide (lo ≤ K n) && decide (K n ≤ hi2))) (fun n c => decide (D n < D c))) none 200))) A) 0 0 A := by
  refine q_open (cc := cX1_between) (maxL := 5) (ret := (some .int)) (by decide) rfl (Nat.le_of_ble_eq_true rfl) ?_
  intro p e s m below meth c ls S hr hlk hB hl
  obtain ⟨hx, hb, hml, hown, hts⟩ := id S
  obtain ⟨hP, hK⟩ := hB
  have hin : ∀ w ∈ u_ws RX1 TX1 5, w ∈ wsX1_between := fun w h => tb_cons w (hinX1 w h)
  have hS : va_S A s.heap s.heap [] := va_S.rf
  have hl : lv_has ls 5 [(0, .ref (a 0)), (1, .long lo), (3, .long hi2)] := hl
  refine lv_aload_n hx hb dX1_between_0 rfl (lv_at hl 0 rfl) ?_
  refine lv_lload_n hx hb dX1_between_1 rfl (lv_at hl 1 rfl) ?_
  refine lv_lload_n hx hb dX1_between_2 rfl (lv_at hl 2 rfl) ?_
  refine wr_call (W.runV (As := [.long lo, .long hi2]) (rest := []) S (cm_first l G a C hD T K D w th lo hi2) (cwV 2 hts (gX1_71 tb_cons) rfl rfl rfl (by decide +kernel) ⟨Nat.le_of_ble_eq_true rfl, Nat.le_of_ble_eq_true rfl⟩) (pM_V hP hK) rfl rfl hl.1 rfl (lv_room (Nat.le_of_ble_eq_true rfl)) dX1_between_3 ⟨Nat.zero_le _, Nat.zero_le _⟩) hS (fun _ h => h) (fun H locs hP hS _ _ => ?_)
  have hP : va_P G vwCl (wM a C T K D w (ft_ot (ft_gf (ft_mnS (fun n => T n && (decide (lo ≤ K n) && decide (K n ≤ hi2))) (fun n c => decide (D n < D c))) none 200))) H := hP
  refine W.eq (g2 := F0 m 6 ls [.int (ft_or (ft_gf (ft_mnS (fun n => T n && (decide (lo ≤ K n) && decide (K n ≤ hi2))) (fun n c => decide (D n < D c))) none 200))]) rfl ?_
  exact W.iret hx hb hr (fun t ht _ => ⟨rfl, by rw [ht]; exact hP, hS.F ht⟩) hS.2.2 dX1_between_6
set_option maxHeartbeats 4000000 in
set_option maxRecDepth 100000 in
theorem cm_pick (l : Launch) (G : va_G) (a : Nat → Nat) (C : Nat → ClassId) {A : Nat → Prop} (hD : ∀ T K D w th, va_D A (wM a C T K D w th)) (T : Nat → Bool) (K D : Nat → Int64) (w : Nat → Int32) (th : Int32) : Met l yX1_pick wsX1_pick { frames := 1, cells := 0, slots := 0, locals := 30 } (va_Pc [.ref (a 0)] (rM G a C T K D w th)) (wr_Q G vwCl (some (.int (ft_or (ft_gf (ft_mnS (fun n => T n && decide (ft_ld T K w (K n) ≤ 0)) (fun n c => decide (D n < D c))) none 200)))) (wM a C T K D w (ft_ot (ft_gf (ft_mnS (fun n => T n && decide (ft_ld T K w (K n) ≤ 0)) (fun n c => decide (D n < D c))) none 200))) A) 0 0 A := by
  refine q_open (cc := cX1_pick) (maxL := 3) (ret := (some .int)) (by decide) rfl (Nat.le_of_ble_eq_true rfl) ?_
  intro p e s m below meth c ls S hr hlk hB hl
  obtain ⟨hx, hb, hml, hown, hts⟩ := id S
  obtain ⟨hP, hK⟩ := hB
  have hin : ∀ w ∈ u_ws RX1 TX1 5, w ∈ wsX1_pick := fun w h => tb_cons w (hinX1 w h)
  have hS : va_S A s.heap s.heap [] := va_S.rf
  have hl : lv_has ls 3 [(0, .ref (a 0))] := hl
  refine lv_aload_n hx hb dX1_pick_0 rfl (lv_at hl 0 rfl) ?_
  refine lv_iconst (v := 0) hx hb dX1_pick_1 (by decide) ?_
  refine va_put (D := G) (ci := 1) (v := .int 0) (ty := .int) (C := RX1) (T := TX1) (N := 5) hx hb hts hin tyX1 tyX1_ok nmX1 hown hK hP (hD _ _ _ _ _) hS 0 rfl rfl 4 (by decide) (hts _ (tb_cons _ w_fl_X1_24)) (fun _ h9 => h9) rfl (by decide +kernel) rfl rfl (Nat.le_of_ble_eq_true rfl) dX1_pick_2 (fun H locs hP _ hS => ?_)
  have hP : va_P G vwCl (wM a C T K D w 0) H := hP
  refine lv_iconst (v := (-1)) hx hb dX1_pick_5 (by decide) ?_
  refine q_topi (y := ft_ob none) rfl ?_
  refine lv_istore_n hx hb dX1_pick_6 rfl hl (by decide) rfl (fun ls hl => ?_)
  have hl : lv_has ls 3 [(1, .int (ft_ob none)), (0, .ref (a 0))] := hl
  refine lv_iconst (v := 0) hx hb dX1_pick_7 (by decide) ?_
  refine lv_istore_n hx hb dX1_pick_8 rfl hl (by decide) rfl (fun ls hl => ?_)
  have hl : lv_has ls 3 [(2, .int 0), (1, .int (ft_ob none)), (0, .ref (a 0))] := hl
  have loop : ∀ (k : Nat) (i : Nat) (acc : Option Nat), i + k = 200 → ft_gf (ft_mnS (fun n => T n && decide (ft_ld T K w (K n) ≤ 0)) (fun n c => decide (D n < D c))) none i = acc → (∀ b, acc = some b → b < 200) → ∀ (H : Heap) (locs : List Loc), va_P G vwCl (wM a C T K D w 0) H → va_S A s.heap H locs → ∀ ls : Array Slot, lv_has ls 3 [(2, .int (nI i)), (1, .int (ft_ob acc)), (0, .ref (a 0))] → W p l e { frames := 1, cells := 0, slots := 0, locals := 30 } s m ([.ref (a 0)] : List Value).toArray below meth c H locs 0 0 (MQ below (wr_Q G vwCl (some (.int (ft_or (ft_gf (ft_mnS (fun n => T n && decide (ft_ld T K w (K n) ≤ 0)) (fun n c => decide (D n < D c))) none 200)))) (wM a C T K D w (ft_ot (ft_gf (ft_mnS (fun n => T n && decide (ft_ld T K w (K n) ≤ 0)) (fun n c => decide (D n < D c))) none 200))) A) ([.ref (a 0)] : List Value).toArray s 0 0 A) (F0 m 9 ls []) := by
    intro k
    induction k with
    | zero =>
      intro i acc hi he hbb H locs hP hS ls hl
      refine lv_iload_n hx hb dX1_pick_9 rfl (lv_at hl 0 rfl) ?_
      refine lv_sipush (v := 200) hx hb dX1_pick_10 (by decide) ?_
      refine lv_icmp_ge (tgt := 64) hx hb dX1_pick_13 (by decide) (fun _ => ?_) (fun hc => absurd (nI_le (a := 200) (by omega) (by omega)) hc)
      have e9 : i = 200 := hi
      rw [e9] at he
      rw [he]
      refine lv_iload_n hx hb dX1_pick_64 rfl (lv_at hl 1 rfl) ?_
      refine lv_iconst (v := (-1)) hx hb dX1_pick_65 (by decide) ?_
      cases acc with
      | none =>
        refine lv_icmp_ne (tgt := 77) hx hb dX1_pick_66 (by decide) (fun hc => absurd (rfl) hc) (fun _ => ?_)
        refine lv_aload_n hx hb dX1_pick_69 rfl (lv_at hl 2 rfl) ?_
        refine lv_iconst (v := 1) hx hb dX1_pick_70 (by decide) ?_
        refine wr_call (W.runV (As := [.int 1]) (rest := []) S (cm_fail l G a C hD T K D w 0) (cwV 1 hts (gX1_52 tb_cons) rfl rfl rfl (by decide +kernel) ⟨Nat.le_of_ble_eq_true rfl, Nat.le_of_ble_eq_true rfl⟩) (pM_V hP hK) rfl rfl hl.1 rfl (lv_room (Nat.le_of_ble_eq_true rfl)) dX1_pick_71 ⟨Nat.zero_le _, Nat.zero_le _⟩) hS (fun _ h => h) (fun H locs hP hS _ _ => ?_)
        have hP : va_P G vwCl (wM a C T K D w 1) H := hP
        refine W.eq (g2 := F0 m 74 ls [.int 0]) rfl ?_
        refine lv_goto (tgt := 78) hx hb dX1_pick_74 (by decide) ?_
        exact W.iret hx hb hr (fun t ht _ => ⟨rfl, by rw [ht]; exact hP, hS.F ht⟩) hS.2.2 dX1_pick_78
      | some b =>
        refine lv_icmp_ne (tgt := 77) hx hb dX1_pick_66 (by decide) (fun _ => ?_) (fun hc => absurd hc (nI_ne_m1 (hbb b rfl)))
        refine lv_iload_n hx hb dX1_pick_77 rfl (lv_at hl 1 rfl) ?_
        exact W.iret hx hb hr (fun t ht _ => ⟨rfl, by rw [ht]; exact hP, hS.F ht⟩) hS.2.2 dX1_pick_78
    | succ k ih =>
      intro i acc hi he hbb H locs hP hS ls hl
      refine lv_iload_n hx hb dX1_pick_9 rfl (lv_at hl 0 rfl) ?_
      refine lv_sipush (v := 200) hx hb dX1_pick_10 (by decide) ?_
      refine lv_icmp_ge (tgt := 64) hx hb dX1_pick_13 (by decide) (fun hc => absurd hc (nI_ge (b := 200) (by omega) (by decide))) (fun _ => ?_)
      refine lv_aload_n hx hb dX1_pick_16 rfl (lv_at hl 2 rfl) ?_
      refine va_get (D := G) (ci := 1) (C := RX1) (T := TX1) (N := 5) hx hb hts hin hown hK hP 0 rfl rfl 0 (by decide) (hts _ (tb_cons _ w_fl_X1_9)) (fun _ h9 => h9) rfl dX1_pick_17 ?_
      refine lv_iload_n hx hb dX1_pick_20 rfl (lv_at hl 0 rfl) ?_
      refine q_zald hx hb hK hP 1 0 rfl rfl (i) rfl (by omega) (by decide) dX1_pick_21 ?_
      by_cases hT : T i = true
      · refine q_topi (y := 1) (ft_tb_t hT) ?_
        refine lv_if_eq (tgt := 58) hx hb dX1_pick_22 (by decide) (fun hc => absurd hc (by decide)) (fun _ => ?_)
        refine lv_aload_n hx hb dX1_pick_25 rfl (lv_at hl 2 rfl) ?_
        refine lv_iload_n hx hb dX1_pick_26 rfl (lv_at hl 0 rfl) ?_
        refine rd_call (W.runV (As := [.int (nI i)]) (rest := []) S (cm_lead l G a C T K D w 0 (j := i) (by omega)) (cwV 1 hts (gX1_75 tb_cons) rfl rfl rfl (by decide +kernel) ⟨Nat.le_of_ble_eq_true rfl, Nat.le_of_ble_eq_true rfl⟩) (pM_V hP hK) rfl rfl hl.1 rfl (lv_room (Nat.le_of_ble_eq_true rfl)) dX1_pick_27 ⟨Nat.zero_le _, Nat.zero_le _⟩) ?_
        refine lv_lconst (v := 0) hx hb dX1_pick_30 (by decide) ?_
        refine W.lcmp hx hb dX1_pick_31 ?_
        refine lv_if_gt (tgt := 58) hx hb dX1_pick_32 (by decide) (fun hld => ?_) (fun hld => ?_)
        · refine lv_iinc (k := 0) (v := nI (i + 1)) hx hb dX1_pick_58 hl rfl (nI_succ i).symm (by decide) rfl (fun ls hl => ?_)
          have hl : lv_has ls 3 [(2, .int (nI (i + 1))), (1, .int (ft_ob acc)), (0, .ref (a 0))] := hl
          refine lv_goto (tgt := 9) hx hb dX1_pick_61 (by decide) ?_
          exact ih (i + 1) acc (by omega) (ft_gf_s he (ft_mnS_f1 (nand2 (fun z => Int64.not_le.mpr ((lg_cmp_gt _ _).mp hld) (of_decide_eq_true z))))) hbb H locs hP hS ls hl
        · have hp : (fun n => T n && decide (ft_ld T K w (K n) ≤ 0)) i = true := (yand hT (decide_eq_true (Int64.not_lt.mp (fun z => hld ((lg_cmp_gt _ _).mpr z)))))
          refine lv_iload_n hx hb dX1_pick_35 rfl (lv_at hl 1 rfl) ?_
          refine lv_iconst (v := (-1)) hx hb dX1_pick_36 (by decide) ?_
          cases acc with
          | none =>
            refine lv_icmp_eq (tgt := 56) hx hb dX1_pick_37 (by decide) (fun _ => ?_) (fun hc => absurd (rfl) hc)
            refine lv_iload_n hx hb dX1_pick_56 rfl (lv_at hl 0 rfl) ?_
            refine lv_istore_n hx hb dX1_pick_57 rfl hl (by decide) rfl (fun ls hl => ?_)
            have hl : lv_has ls 3 [(1, .int (nI i)), (2, .int (nI i)), (0, .ref (a 0))] := hl
            refine lv_iinc (k := 1) (v := nI (i + 1)) hx hb dX1_pick_58 hl rfl (nI_succ i).symm (by decide) rfl (fun ls hl => ?_)
            have hl : lv_has ls 3 [(2, .int (nI (i + 1))), (1, .int (nI i)), (0, .ref (a 0))] := hl
            refine lv_goto (tgt := 9) hx hb dX1_pick_61 (by decide) ?_
            exact ih (i + 1) (some i) (by omega) (ft_gf_s he (ft_mnS_t hp rfl)) (fun b e => by cases e; omega) H locs hP hS ls hl
          | some b =>
            refine lv_icmp_eq (tgt := 56) hx hb dX1_pick_37 (by decide) (fun hc => absurd hc (nI_ne_m1 (hbb b rfl))) (fun _ => ?_)
            refine lv_aload_n hx hb dX1_pick_40 rfl (lv_at hl 2 rfl) ?_
            refine va_get (D := G) (ci := 1) (C := RX1) (T := TX1) (N := 5) hx hb hts hin hown hK hP 0 rfl rfl 2 (by decide) (hts _ (tb_cons _ w_fl_X1_17)) (fun _ h9 => h9) rfl dX1_pick_41 ?_
            refine lv_iload_n hx hb dX1_pick_44 rfl (lv_at hl 0 rfl) ?_
            refine q_lald hx hb hK hP 3 2 rfl rfl (i) rfl (by omega) (by decide) dX1_pick_45 ?_
            refine lv_aload_n hx hb dX1_pick_46 rfl (lv_at hl 2 rfl) ?_
            refine va_get (D := G) (ci := 1) (C := RX1) (T := TX1) (N := 5) hx hb hts hin hown hK hP 0 rfl rfl 2 (by decide) (hts _ (tb_cons _ w_fl_X1_17)) (fun _ h9 => h9) rfl dX1_pick_47 ?_
            refine lv_iload_n hx hb dX1_pick_50 rfl (lv_at hl 1 rfl) ?_
            refine q_lald hx hb hK hP 3 2 rfl rfl (b) rfl (hbb b rfl) (by decide) dX1_pick_51 ?_
            refine W.lcmp hx hb dX1_pick_52 ?_
            refine lv_if_ge (tgt := 58) hx hb dX1_pick_53 (by decide) (fun hd => ?_) (fun hd => ?_)
            · refine lv_iinc (k := 0) (v := nI (i + 1)) hx hb dX1_pick_58 hl rfl (nI_succ i).symm (by decide) rfl (fun ls hl => ?_)
              have hl : lv_has ls 3 [(2, .int (nI (i + 1))), (1, .int (ft_ob (some b))), (0, .ref (a 0))] := hl
              refine lv_goto (tgt := 9) hx hb dX1_pick_61 (by decide) ?_
              exact ih (i + 1) (some b) (by omega) (ft_gf_s he (ft_mnS_f2 (fun z => Int64.not_lt.mpr ((lg_cmp_ge _ _).mp hd) (of_decide_eq_true z)))) hbb H locs hP hS ls hl
            · refine lv_iload_n hx hb dX1_pick_56 rfl (lv_at hl 0 rfl) ?_
              refine lv_istore_n hx hb dX1_pick_57 rfl hl (by decide) rfl (fun ls hl => ?_)
              have hl : lv_has ls 3 [(1, .int (nI i)), (2, .int (nI i)), (0, .ref (a 0))] := hl
              refine lv_iinc (k := 1) (v := nI (i + 1)) hx hb dX1_pick_58 hl rfl (nI_succ i).symm (by decide) rfl (fun ls hl => ?_)
              have hl : lv_has ls 3 [(2, .int (nI (i + 1))), (1, .int (nI i)), (0, .ref (a 0))] := hl
              refine lv_goto (tgt := 9) hx hb dX1_pick_61 (by decide) ?_
              exact ih (i + 1) (some i) (by omega) (ft_gf_s he (ft_mnS_t hp (decide_eq_true (Int64.not_le.mp (fun z => hd ((lg_cmp_ge _ _).mpr z)))))) (fun b e => by cases e; omega) H locs hP hS ls hl
      · refine q_topi (y := 0) (ft_tb_f hT) ?_
        refine lv_if_eq (tgt := 58) hx hb dX1_pick_22 (by decide) (fun _ => ?_) (fun hc => absurd (rfl) hc)
        refine lv_iinc (k := 0) (v := nI (i + 1)) hx hb dX1_pick_58 hl rfl (nI_succ i).symm (by decide) rfl (fun ls hl => ?_)
        have hl : lv_has ls 3 [(2, .int (nI (i + 1))), (1, .int (ft_ob acc)), (0, .ref (a 0))] := hl
        refine lv_goto (tgt := 9) hx hb dX1_pick_61 (by decide) ?_
        exact ih (i + 1) acc (by omega) (ft_gf_s he (ft_mnS_f1 (nand1 hT))) hbb H locs hP hS ls hl
  exact loop 200 0 none (by omega) rfl (fun b e => by cases e) H locs hP hS ls hl
set_option maxHeartbeats 4000000 in
set_option maxRecDepth 100000 in
theorem cm_weight (l : Launch) (G : va_G) (a : Nat → Nat) (C : Nat → ClassId) {A : Nat → Prop} (hD : ∀ T K D w th, va_D A (wM a C T K D w th)) (T : Nat → Bool) (K D : Nat → Int64) (w : Nat → Int32) (th : Int32) (key : Int64) : Met l yX1_weight wsX1_weight rm0 (va_Pc [.ref (a 0), .long key] (rM G a C T K D w th)) (wr_Q G vwCl (some (.int (ft_sum (fun a b : Int32 => a + b) 0 (fun n => if (T n && decide (K n ≤ key)) = true then w n else 0) 200))) (wM a C T K D w 0) A) 0 0 A := by
  refine q_open (cc := cX1_weight) (maxL := 5) (ret := (some .int)) (by decide) rfl (Nat.le_of_ble_eq_true rfl) ?_
  intro p e s m below meth c ls S hr hlk hB hl
  obtain ⟨hx, hb, hml, hown, hts⟩ := id S
  obtain ⟨hP, hK⟩ := hB
  have hin : ∀ w ∈ u_ws RX1 TX1 5, w ∈ wsX1_weight := fun w h => tb_cons w (hinX1 w h)
  have hS : va_S A s.heap s.heap [] := va_S.rf
  have hl : lv_has ls 5 [(0, .ref (a 0)), (1, .long key)] := hl
  refine lv_aload_n hx hb dX1_weight_0 rfl (lv_at hl 0 rfl) ?_
  refine lv_iconst (v := 0) hx hb dX1_weight_1 (by decide) ?_
  refine va_put (D := G) (ci := 1) (v := .int 0) (ty := .int) (C := RX1) (T := TX1) (N := 5) hx hb hts hin tyX1 tyX1_ok nmX1 hown hK hP (hD _ _ _ _ _) hS 0 rfl rfl 4 (by decide) (hts _ (tb_cons _ w_fl_X1_24)) (fun _ h9 => h9) rfl (by decide +kernel) rfl rfl (Nat.le_of_ble_eq_true rfl) dX1_weight_2 (fun H locs hP _ hS => ?_)
  have hP : va_P G vwCl (wM a C T K D w 0) H := hP
  refine lv_iconst (v := 0) hx hb dX1_weight_5 (by decide) ?_
  refine q_topi (y := (ft_sum (fun a b : Int32 => a + b) 0 (fun n => if (T n && decide (K n ≤ key)) = true then w n else 0) 0)) rfl ?_
  refine lv_istore_n hx hb dX1_weight_6 rfl hl (by decide) rfl (fun ls hl => ?_)
  have hl : lv_has ls 5 [(3, .int (ft_sum (fun a b : Int32 => a + b) 0 (fun n => if (T n && decide (K n ≤ key)) = true then w n else 0) 0)), (0, .ref (a 0)), (1, .long key)] := hl
  refine lv_iconst (v := 0) hx hb dX1_weight_7 (by decide) ?_
  refine lv_istore hx hb dX1_weight_8 hl (by decide) rfl (fun ls hl => ?_)
  have hl : lv_has ls 5 [(4, .int 0), (3, .int (ft_sum (fun a b : Int32 => a + b) 0 (fun n => if (T n && decide (K n ≤ key)) = true then w n else 0) 0)), (0, .ref (a 0)), (1, .long key)] := hl
  have loop : ∀ (k : Nat) (i : Nat), i + k = 200 → ∀ (H : Heap) (locs : List Loc), va_P G vwCl (wM a C T K D w 0) H → va_S A s.heap H locs → ∀ ls : Array Slot, lv_has ls 5 [(4, .int (nI i)), (3, .int (ft_sum (fun a b : Int32 => a + b) 0 (fun n => if (T n && decide (K n ≤ key)) = true then w n else 0) i)), (0, .ref (a 0)), (1, .long key)] → W p l e rm0 s m ([.ref (a 0), .long key] : List Value).toArray below meth c H locs 0 0 (MQ below (wr_Q G vwCl (some (.int (ft_sum (fun a b : Int32 => a + b) 0 (fun n => if (T n && decide (K n ≤ key)) = true then w n else 0) 200))) (wM a C T K D w 0) A) ([.ref (a 0), .long key] : List Value).toArray s 0 0 A) (F0 m 10 ls []) := by
    intro k
    induction k with
    | zero =>
      intro i hi H locs hP hS ls hl
      refine lv_iload hx hb dX1_weight_10 (lv_at hl 0 rfl) ?_
      refine lv_sipush (v := 200) hx hb dX1_weight_12 (by decide) ?_
      refine lv_icmp_ge (tgt := 56) hx hb dX1_weight_15 (by decide) (fun _ => ?_) (fun hc => absurd (nI_le (a := 200) (by omega) (by omega)) hc)
      refine lv_iload_n hx hb dX1_weight_56 rfl (lv_at hl 1 rfl) ?_
      have hi : i = 200 := hi
      exact W.iret hx hb hr (fun t ht _ => ⟨by rw [hi], by rw [ht]; exact hP, hS.F ht⟩) hS.2.2 dX1_weight_57
    | succ k ih =>
      intro i hi H locs hP hS ls hl
      refine lv_iload hx hb dX1_weight_10 (lv_at hl 0 rfl) ?_
      refine lv_sipush (v := 200) hx hb dX1_weight_12 (by decide) ?_
      refine lv_icmp_ge (tgt := 56) hx hb dX1_weight_15 (by decide) (fun hc => absurd hc (nI_ge (b := 200) (by omega) (by decide))) (fun _ => ?_)
      refine lv_aload_n hx hb dX1_weight_18 rfl (lv_at hl 2 rfl) ?_
      refine va_get (D := G) (ci := 1) (C := RX1) (T := TX1) (N := 5) hx hb hts hin hown hK hP 0 rfl rfl 0 (by decide) (hts _ (tb_cons _ w_fl_X1_9)) (fun _ h9 => h9) rfl dX1_weight_19 ?_
      refine lv_iload hx hb dX1_weight_22 (lv_at hl 0 rfl) ?_
      refine q_zald hx hb hK hP 1 0 rfl rfl (i) rfl (by omega) (by decide) dX1_weight_24 ?_
      by_cases hT : T i = true
      · refine q_topi (y := 1) (ft_tb_t hT) ?_
        refine lv_if_eq (tgt := 50) hx hb dX1_weight_25 (by decide) (fun hc => absurd hc (by decide)) (fun _ => ?_)
        refine lv_aload_n hx hb dX1_weight_28 rfl (lv_at hl 2 rfl) ?_
        refine va_get (D := G) (ci := 1) (C := RX1) (T := TX1) (N := 5) hx hb hts hin hown hK hP 0 rfl rfl 1 (by decide) (hts _ (tb_cons _ w_fl_X1_13)) (fun _ h9 => h9) rfl dX1_weight_29 ?_
        refine lv_iload hx hb dX1_weight_32 (lv_at hl 0 rfl) ?_
        refine q_lald hx hb hK hP 2 1 rfl rfl (i) rfl (by omega) (by decide) dX1_weight_34 ?_
        refine lv_lload_n hx hb dX1_weight_35 rfl (lv_at hl 3 rfl) ?_
        refine W.lcmp hx hb dX1_weight_36 ?_
        refine lv_if_gt (tgt := 50) hx hb dX1_weight_37 (by decide) (fun hk => ?_) (fun hk => ?_)
        · refine lv_iinc (k := 0) (v := nI (i + 1)) hx hb dX1_weight_50 hl rfl (nI_succ i).symm (by decide) rfl (fun ls hl => ?_)
          have hl : lv_has ls 5 [(4, .int (nI (i + 1))), (3, .int (ft_sum (fun a b : Int32 => a + b) 0 (fun n => if (T n && decide (K n ≤ key)) = true then w n else 0) i)), (0, .ref (a 0)), (1, .long key)] := hl
          refine lv_goto (tgt := 10) hx hb dX1_weight_53 (by decide) ?_
          exact ih (i + 1) (by omega) H locs hP hS ls (by rw [ft_sum_f (P := (fun n => T n && decide (K n ≤ key))) (fun a => Int32.add_zero a) (nand2 (fun z => Int64.not_le.mpr ((lg_cmp_gt _ _).mp hk) (of_decide_eq_true z)))]; exact hl)
        · refine lv_iload_n hx hb dX1_weight_40 rfl (lv_at hl 1 rfl) ?_
          refine lv_aload_n hx hb dX1_weight_41 rfl (lv_at hl 2 rfl) ?_
          refine va_get (D := G) (ci := 1) (C := RX1) (T := TX1) (N := 5) hx hb hts hin hown hK hP 0 rfl rfl 3 (by decide) (hts _ (tb_cons _ w_fl_X1_20)) (fun _ h9 => h9) rfl dX1_weight_42 ?_
          refine lv_iload hx hb dX1_weight_45 (lv_at hl 0 rfl) ?_
          refine q_iald hx hb hK hP 4 3 rfl rfl (i) rfl (by omega) (by decide) dX1_weight_47 ?_
          refine lv_iadd hx hb dX1_weight_48 ?_
          refine q_topi (y := (ft_sum (fun a b : Int32 => a + b) 0 (fun n => if (T n && decide (K n ≤ key)) = true then w n else 0) (i + 1))) (ft_sum_t (op := fun a b : Int32 => a + b) (P := (fun n => T n && decide (K n ≤ key))) (f := w) (yand hT (decide_eq_true (Int64.not_lt.mp (fun z => hk ((lg_cmp_gt _ _).mpr z)))))) ?_
          refine lv_istore_n hx hb dX1_weight_49 rfl hl (by decide) rfl (fun ls hl => ?_)
          have hl : lv_has ls 5 [(3, .int (ft_sum (fun a b : Int32 => a + b) 0 (fun n => if (T n && decide (K n ≤ key)) = true then w n else 0) (i + 1))), (4, .int (nI i)), (0, .ref (a 0)), (1, .long key)] := hl
          refine lv_iinc (k := 1) (v := nI (i + 1)) hx hb dX1_weight_50 hl rfl (nI_succ i).symm (by decide) rfl (fun ls hl => ?_)
          have hl : lv_has ls 5 [(4, .int (nI (i + 1))), (3, .int (ft_sum (fun a b : Int32 => a + b) 0 (fun n => if (T n && decide (K n ≤ key)) = true then w n else 0) (i + 1))), (0, .ref (a 0)), (1, .long key)] := hl
          refine lv_goto (tgt := 10) hx hb dX1_weight_53 (by decide) ?_
          exact ih (i + 1) (by omega) H locs hP hS ls hl
      · refine q_topi (y := 0) (ft_tb_f hT) ?_
        refine lv_if_eq (tgt := 50) hx hb dX1_weight_25 (by decide) (fun _ => ?_) (fun hc => absurd (rfl) hc)
        refine lv_iinc (k := 0) (v := nI (i + 1)) hx hb dX1_weight_50 hl rfl (nI_succ i).symm (by decide) rfl (fun ls hl => ?_)
        have hl : lv_has ls 5 [(4, .int (nI (i + 1))), (3, .int (ft_sum (fun a b : Int32 => a + b) 0 (fun n => if (T n && decide (K n ≤ key)) = true then w n else 0) i)), (0, .ref (a 0)), (1, .long key)] := hl
        refine lv_goto (tgt := 10) hx hb dX1_weight_53 (by decide) ?_
        exact ih (i + 1) (by omega) H locs hP hS ls (by rw [ft_sum_f (P := (fun n => T n && decide (K n ≤ key))) (fun a => Int32.add_zero a) (nand1 hT)]; exact hl)
  exact loop 200 0 (by omega) H locs hP hS ls hl
set_option maxHeartbeats 4000000 in
set_option maxRecDepth 100000 in
theorem cm_cut (l : Launch) (G : va_G) (a : Nat → Nat) (C : Nat → ClassId) {A : Nat → Prop} (hD : ∀ T K D w th, va_D A (wM a C T K D w th)) (T : Nat → Bool) (K D : Nat → Int64) (w : Nat → Int32) (th : Int32) (lo hi2 : Int64) : Met l yX1_cut wsX1_cut rm0 (va_Pc [.ref (a 0), .long lo, .long hi2] (rM G a C T K D w th)) (wr_Q G vwCl (some (.int (nI (ft_cnt (fun n => T n && (decide (lo ≤ K n) && decide (K n ≤ hi2))) 200)))) (wM a C (ft_tc T (fun n => decide (lo ≤ K n) && decide (K n ≤ hi2)) 200) K D w 0) A) 0 0 A := by
  refine q_open (cc := cX1_cut) (maxL := 7) (ret := (some .int)) (by decide) rfl (Nat.le_of_ble_eq_true rfl) ?_
  intro p e s m below meth c ls S hr hlk hB hl
  obtain ⟨hx, hb, hml, hown, hts⟩ := id S
  obtain ⟨hP, hK⟩ := hB
  have hin : ∀ w ∈ u_ws RX1 TX1 5, w ∈ wsX1_cut := fun w h => tb_cons w (hinX1 w h)
  have hS : va_S A s.heap s.heap [] := va_S.rf
  have hl : lv_has ls 7 [(0, .ref (a 0)), (1, .long lo), (3, .long hi2)] := hl
  refine lv_aload_n hx hb dX1_cut_0 rfl (lv_at hl 0 rfl) ?_
  refine lv_iconst (v := 0) hx hb dX1_cut_1 (by decide) ?_
  refine va_put (D := G) (ci := 1) (v := .int 0) (ty := .int) (C := RX1) (T := TX1) (N := 5) hx hb hts hin tyX1 tyX1_ok nmX1 hown hK hP (hD _ _ _ _ _) hS 0 rfl rfl 4 (by decide) (hts _ (tb_cons _ w_fl_X1_24)) (fun _ h9 => h9) rfl (by decide +kernel) rfl rfl (Nat.le_of_ble_eq_true rfl) dX1_cut_2 (fun H locs hP _ hS => ?_)
  have hP : va_P G vwCl (wM a C T K D w 0) H := hP
  refine lv_iconst (v := 0) hx hb dX1_cut_5 (by decide) ?_
  refine q_topi (y := nI (ft_cnt (fun n => T n && (decide (lo ≤ K n) && decide (K n ≤ hi2))) 0)) rfl ?_
  refine lv_istore hx hb dX1_cut_6 hl (by decide) rfl (fun ls hl => ?_)
  have hl : lv_has ls 7 [(5, .int (nI (ft_cnt (fun n => T n && (decide (lo ≤ K n) && decide (K n ≤ hi2))) 0))), (0, .ref (a 0)), (1, .long lo), (3, .long hi2)] := hl
  refine lv_iconst (v := 0) hx hb dX1_cut_8 (by decide) ?_
  refine lv_istore hx hb dX1_cut_9 hl (by decide) rfl (fun ls hl => ?_)
  have hl : lv_has ls 7 [(6, .int 0), (5, .int (nI (ft_cnt (fun n => T n && (decide (lo ≤ K n) && decide (K n ≤ hi2))) 0))), (0, .ref (a 0)), (1, .long lo), (3, .long hi2)] := hl
  rw [← ft_tc_0 T (fun n => decide (lo ≤ K n) && decide (K n ≤ hi2))] at hP
  have loop : ∀ (k : Nat) (i : Nat), i + k = 200 → ∀ (H : Heap) (locs : List Loc), va_P G vwCl (wM a C (ft_tc T (fun n => decide (lo ≤ K n) && decide (K n ≤ hi2)) i) K D w 0) H → va_S A s.heap H locs → ∀ ls : Array Slot, lv_has ls 7 [(6, .int (nI i)), (5, .int (nI (ft_cnt (fun n => T n && (decide (lo ≤ K n) && decide (K n ≤ hi2))) i))), (0, .ref (a 0)), (1, .long lo), (3, .long hi2)] → W p l e rm0 s m ([.ref (a 0), .long lo, .long hi2] : List Value).toArray below meth c H locs 0 0 (MQ below (wr_Q G vwCl (some (.int (nI (ft_cnt (fun n => T n && (decide (lo ≤ K n) && decide (K n ≤ hi2))) 200)))) (wM a C (ft_tc T (fun n => decide (lo ≤ K n) && decide (K n ≤ hi2)) 200) K D w 0) A) ([.ref (a 0), .long lo, .long hi2] : List Value).toArray s 0 0 A) (F0 m 11 ls []) := by
    intro k
    induction k with
    | zero =>
      intro i hi H locs hP hS ls hl
      refine lv_iload hx hb dX1_cut_11 (lv_at hl 0 rfl) ?_
      refine lv_sipush (v := 200) hx hb dX1_cut_13 (by decide) ?_
      refine lv_icmp_ge (tgt := 73) hx hb dX1_cut_16 (by decide) (fun _ => ?_) (fun hc => absurd (nI_le (a := 200) (by omega) (by omega)) hc)
      refine lv_iload hx hb dX1_cut_73 (lv_at hl 1 rfl) ?_
      have hi : i = 200 := hi
      rw [hi] at hP
      exact W.iret hx hb hr (fun t ht _ => ⟨by rw [hi], by rw [ht]; exact hP, hS.F ht⟩) hS.2.2 dX1_cut_75
    | succ k ih =>
      intro i hi H locs hP hS ls hl
      refine lv_iload hx hb dX1_cut_11 (lv_at hl 0 rfl) ?_
      refine lv_sipush (v := 200) hx hb dX1_cut_13 (by decide) ?_
      refine lv_icmp_ge (tgt := 73) hx hb dX1_cut_16 (by decide) (fun hc => absurd hc (nI_ge (b := 200) (by omega) (by decide))) (fun _ => ?_)
      refine lv_aload_n hx hb dX1_cut_19 rfl (lv_at hl 2 rfl) ?_
      refine va_get (D := G) (ci := 1) (C := RX1) (T := TX1) (N := 5) hx hb hts hin hown hK hP 0 rfl rfl 0 (by decide) (hts _ (tb_cons _ w_fl_X1_9)) (fun _ h9 => h9) rfl dX1_cut_20 ?_
      refine lv_iload hx hb dX1_cut_23 (lv_at hl 0 rfl) ?_
      refine q_zald hx hb hK hP 1 0 rfl rfl (i) rfl (by omega) (by decide) dX1_cut_25 ?_
      by_cases hT : (ft_tc T (fun n => decide (lo ≤ K n) && decide (K n ≤ hi2)) i) i = true
      · refine q_topi (y := 1) (ft_tb_t hT) ?_
        rw [ft_tc_at] at hT
        refine lv_if_eq (tgt := 67) hx hb dX1_cut_26 (by decide) (fun hc => absurd hc (by decide)) (fun _ => ?_)
        refine lv_aload_n hx hb dX1_cut_29 rfl (lv_at hl 2 rfl) ?_
        refine va_get (D := G) (ci := 1) (C := RX1) (T := TX1) (N := 5) hx hb hts hin hown hK hP 0 rfl rfl 1 (by decide) (hts _ (tb_cons _ w_fl_X1_13)) (fun _ h9 => h9) rfl dX1_cut_30 ?_
        refine lv_iload hx hb dX1_cut_33 (lv_at hl 0 rfl) ?_
        refine q_lald hx hb hK hP 2 1 rfl rfl (i) rfl (by omega) (by decide) dX1_cut_35 ?_
        refine lv_lload_n hx hb dX1_cut_36 rfl (lv_at hl 3 rfl) ?_
        refine W.lcmp hx hb dX1_cut_37 ?_
        refine lv_if_lt (tgt := 67) hx hb dX1_cut_38 (by decide) (fun hlo => ?_) (fun hlo => ?_)
        · refine lv_iinc (k := 0) (v := nI (i + 1)) hx hb dX1_cut_67 hl rfl (nI_succ i).symm (by decide) rfl (fun ls hl => ?_)
          have hl : lv_has ls 7 [(6, .int (nI (i + 1))), (5, .int (nI (ft_cnt (fun n => T n && (decide (lo ≤ K n) && decide (K n ≤ hi2))) i))), (0, .ref (a 0)), (1, .long lo), (3, .long hi2)] := hl
          refine lv_goto (tgt := 11) hx hb dX1_cut_70 (by decide) ?_
          exact ih (i + 1) (by omega) H locs (by rw [ft_tc_f (nand2 (nand1 (fun z => Int64.not_le.mpr ((lg_cmp_lt _ _).mp hlo) (of_decide_eq_true z))))]; exact hP) hS ls (by rw [ft_cnt_f (P := fun n => T n && (decide (lo ≤ K n) && decide (K n ≤ hi2))) (nand2 (nand1 (fun z => Int64.not_le.mpr ((lg_cmp_lt _ _).mp hlo) (of_decide_eq_true z))))]; exact hl)
        · refine lv_aload_n hx hb dX1_cut_41 rfl (lv_at hl 2 rfl) ?_
          refine va_get (D := G) (ci := 1) (C := RX1) (T := TX1) (N := 5) hx hb hts hin hown hK hP 0 rfl rfl 1 (by decide) (hts _ (tb_cons _ w_fl_X1_13)) (fun _ h9 => h9) rfl dX1_cut_42 ?_
          refine lv_iload hx hb dX1_cut_45 (lv_at hl 0 rfl) ?_
          refine q_lald hx hb hK hP 2 1 rfl rfl (i) rfl (by omega) (by decide) dX1_cut_47 ?_
          refine lv_lload_n hx hb dX1_cut_48 rfl (lv_at hl 4 rfl) ?_
          refine W.lcmp hx hb dX1_cut_49 ?_
          refine lv_if_le (tgt := 56) hx hb dX1_cut_50 (by decide) (fun hhi => ?_) (fun hhi => ?_)
          · refine lv_aload_n hx hb dX1_cut_56 rfl (lv_at hl 2 rfl) ?_
            refine va_get (D := G) (ci := 1) (C := RX1) (T := TX1) (N := 5) hx hb hts hin hown hK hP 0 rfl rfl 0 (by decide) (hts _ (tb_cons _ w_fl_X1_9)) (fun _ h9 => h9) rfl dX1_cut_57 ?_
            refine lv_iload hx hb dX1_cut_60 (lv_at hl 0 rfl) ?_
            refine lv_iconst (v := 0) hx hb dX1_cut_62 (by decide) ?_
            refine q_zast hx hb hK hP (hD _ _ _ _ _) hS 1 0 rfl rfl (i) rfl (by omega) (by decide) rfl dX1_cut_63 (fun H locs hP hS => ?_)
            rw [ft_tb_up0] at hP
            have hP : va_P G vwCl (wM a C (fun i9 => if i9 = i then false else (ft_tc T (fun n => decide (lo ≤ K n) && decide (K n ≤ hi2)) i) i9) K D w 0) H := hP
            have hp : (fun n => decide (lo ≤ K n) && decide (K n ≤ hi2)) i = true := yand (decide_eq_true (Int64.not_lt.mp (fun z => hlo ((lg_cmp_lt _ _).mpr z)))) (decide_eq_true ((lg_cmp_le _ _).mp hhi))
            rw [ft_tc_t (P := (fun n => decide (lo ≤ K n) && decide (K n ≤ hi2))) hp] at hP
            refine lv_iinc (k := 1) (v := nI (ft_cnt (fun n => T n && (decide (lo ≤ K n) && decide (K n ≤ hi2))) (i + 1))) hx hb dX1_cut_64 hl rfl (ft_cnt_t (P := fun n => T n && (decide (lo ≤ K n) && decide (K n ≤ hi2))) (yand hT hp)) (by decide) rfl (fun ls hl => ?_)
            have hl : lv_has ls 7 [(5, .int (nI (ft_cnt (fun n => T n && (decide (lo ≤ K n) && decide (K n ≤ hi2))) (i + 1)))), (6, .int (nI i)), (0, .ref (a 0)), (1, .long lo), (3, .long hi2)] := hl
            refine lv_iinc (k := 1) (v := nI (i + 1)) hx hb dX1_cut_67 hl rfl (nI_succ i).symm (by decide) rfl (fun ls hl => ?_)
            have hl : lv_has ls 7 [(6, .int (nI (i + 1))), (5, .int (nI (ft_cnt (fun n => T n && (decide (lo ≤ K n) && decide (K n ≤ hi2))) (i + 1)))), (0, .ref (a 0)), (1, .long lo), (3, .long hi2)] := hl
            refine lv_goto (tgt := 11) hx hb dX1_cut_70 (by decide) ?_
            exact ih (i + 1) (by omega) H locs hP hS ls hl
          · refine lv_goto (tgt := 67) hx hb dX1_cut_53 (by decide) ?_
            refine lv_iinc (k := 0) (v := nI (i + 1)) hx hb dX1_cut_67 hl rfl (nI_succ i).symm (by decide) rfl (fun ls hl => ?_)
            have hl : lv_has ls 7 [(6, .int (nI (i + 1))), (5, .int (nI (ft_cnt (fun n => T n && (decide (lo ≤ K n) && decide (K n ≤ hi2))) i))), (0, .ref (a 0)), (1, .long lo), (3, .long hi2)] := hl
            refine lv_goto (tgt := 11) hx hb dX1_cut_70 (by decide) ?_
            exact ih (i + 1) (by omega) H locs (by rw [ft_tc_f (nand2 (nand2 (fun z => hhi ((lg_cmp_le _ _).mpr (of_decide_eq_true z)))))]; exact hP) hS ls (by rw [ft_cnt_f (P := fun n => T n && (decide (lo ≤ K n) && decide (K n ≤ hi2))) (nand2 (nand2 (fun z => hhi ((lg_cmp_le _ _).mpr (of_decide_eq_true z)))))]; exact hl)
      · refine q_topi (y := 0) (ft_tb_f hT) ?_
        rw [ft_tc_at] at hT
        refine lv_if_eq (tgt := 67) hx hb dX1_cut_26 (by decide) (fun _ => ?_) (fun hc => absurd (rfl) hc)
        refine lv_iinc (k := 0) (v := nI (i + 1)) hx hb dX1_cut_67 hl rfl (nI_succ i).symm (by decide) rfl (fun ls hl => ?_)
        have hl : lv_has ls 7 [(6, .int (nI (i + 1))), (5, .int (nI (ft_cnt (fun n => T n && (decide (lo ≤ K n) && decide (K n ≤ hi2))) i))), (0, .ref (a 0)), (1, .long lo), (3, .long hi2)] := hl
        refine lv_goto (tgt := 11) hx hb dX1_cut_70 (by decide) ?_
        exact ih (i + 1) (by omega) H locs (by rw [ft_tc_f (nand1 hT)]; exact hP) hS ls (by rw [ft_cnt_f (P := fun n => T n && (decide (lo ≤ K n) && decide (K n ≤ hi2))) (nand1 hT)]; exact hl)
  exact loop 200 0 (by omega) H locs hP hS ls hl
set_option maxHeartbeats 4000000 in
set_option maxRecDepth 100000 in
theorem cm_count_0 (l : Launch) (G : va_G) (a : Nat → Nat) (C : Nat → ClassId) {A : Nat → Prop} (hD : ∀ T K D w th, va_D A (wM a C T K D w th)) (T : Nat → Bool) (K D : Nat → Int64) (w : Nat → Int32) (th : Int32) : Met l yX1_count wsX1_count { frames := 1, cells := 0, slots := 0, locals := 30 } (va_Pc [.ref (a 0), .int 0] (rM G a C T K D w th)) (wr_Q G vwCl (some (.int (nI (ft_cnt T 200)))) (wM a C T K D w 0) A) 0 0 A := by
  refine q_open (cc := cX1_count) (maxL := 4) (ret := (some .int)) (by decide) rfl (Nat.le_of_ble_eq_true rfl) ?_
  intro p e s m below meth c ls S hr hlk hB hl
  obtain ⟨hx, hb, hml, hown, hts⟩ := id S
  obtain ⟨hP, hK⟩ := hB
  have hin : ∀ w ∈ u_ws RX1 TX1 5, w ∈ wsX1_count := fun w h => tb_cons w (hinX1 w h)
  have hS : va_S A s.heap s.heap [] := va_S.rf
  have hl : lv_has ls 4 [(0, .ref (a 0)), (1, .int 0)] := hl
  refine lv_aload_n hx hb dX1_count_0 rfl (lv_at hl 0 rfl) ?_
  refine lv_iconst (v := 0) hx hb dX1_count_1 (by decide) ?_
  refine va_put (D := G) (ci := 1) (v := .int 0) (ty := .int) (C := RX1) (T := TX1) (N := 5) hx hb hts hin tyX1 tyX1_ok nmX1 hown hK hP (hD _ _ _ _ _) hS 0 rfl rfl 4 (by decide) (hts _ (tb_cons _ w_fl_X1_24)) (fun _ h9 => h9) rfl (by decide +kernel) rfl rfl (Nat.le_of_ble_eq_true rfl) dX1_count_2 (fun H locs hP _ hS => ?_)
  have hP : va_P G vwCl (wM a C T K D w 0) H := hP
  refine lv_iload_n hx hb dX1_count_5 rfl (lv_at hl 1 rfl) ?_
  refine lv_if_ne (tgt := 14) hx hb dX1_count_6 (by decide) (fun hc => absurd (rfl) hc) (fun _ => ?_)
  refine lv_aload_n hx hb dX1_count_9 rfl (lv_at hl 0 rfl) ?_
  refine rd_call (W.runV (As := []) (rest := []) S (cm_many l G a C T K D w 0) (cwV 0 hts (gX1_32 tb_cons) rfl rfl rfl (by decide +kernel) ⟨Nat.le_of_ble_eq_true rfl, Nat.le_of_ble_eq_true rfl⟩) (pM_V hP hK) rfl rfl hl.1 rfl (lv_room (Nat.le_of_ble_eq_true rfl)) dX1_count_10 ⟨Nat.zero_le _, Nat.zero_le _⟩) ?_
  exact W.iret hx hb hr (fun t ht _ => ⟨rfl, by rw [ht]; exact hP, hS.F ht⟩) hS.2.2 dX1_count_13
set_option maxHeartbeats 4000000 in
set_option maxRecDepth 100000 in
theorem cm_count_1 (l : Launch) (G : va_G) (a : Nat → Nat) (C : Nat → ClassId) {A : Nat → Prop} (hD : ∀ T K D w th, va_D A (wM a C T K D w th)) (T : Nat → Bool) (K D : Nat → Int64) (w : Nat → Int32) (th : Int32) : Met l yX1_count wsX1_count { frames := 1, cells := 0, slots := 0, locals := 30 } (va_Pc [.ref (a 0), .int 1] (rM G a C T K D w th)) (wr_Q G vwCl (some (.int (ft_W64 T w).toInt32)) (wM a C T K D w 0) A) 0 0 A := by
  refine q_open (cc := cX1_count) (maxL := 4) (ret := (some .int)) (by decide) rfl (Nat.le_of_ble_eq_true rfl) ?_
  intro p e s m below meth c ls S hr hlk hB hl
  obtain ⟨hx, hb, hml, hown, hts⟩ := id S
  obtain ⟨hP, hK⟩ := hB
  have hin : ∀ w ∈ u_ws RX1 TX1 5, w ∈ wsX1_count := fun w h => tb_cons w (hinX1 w h)
  have hS : va_S A s.heap s.heap [] := va_S.rf
  have hl : lv_has ls 4 [(0, .ref (a 0)), (1, .int 1)] := hl
  refine lv_aload_n hx hb dX1_count_0 rfl (lv_at hl 0 rfl) ?_
  refine lv_iconst (v := 0) hx hb dX1_count_1 (by decide) ?_
  refine va_put (D := G) (ci := 1) (v := .int 0) (ty := .int) (C := RX1) (T := TX1) (N := 5) hx hb hts hin tyX1 tyX1_ok nmX1 hown hK hP (hD _ _ _ _ _) hS 0 rfl rfl 4 (by decide) (hts _ (tb_cons _ w_fl_X1_24)) (fun _ h9 => h9) rfl (by decide +kernel) rfl rfl (Nat.le_of_ble_eq_true rfl) dX1_count_2 (fun H locs hP _ hS => ?_)
  have hP : va_P G vwCl (wM a C T K D w 0) H := hP
  refine lv_iload_n hx hb dX1_count_5 rfl (lv_at hl 1 rfl) ?_
  refine lv_if_ne (tgt := 14) hx hb dX1_count_6 (by decide) (fun _ => ?_) (fun hc => absurd hc (by decide))
  refine lv_iload_n hx hb dX1_count_14 rfl (lv_at hl 1 rfl) ?_
  refine lv_iconst (v := 1) hx hb dX1_count_15 (by decide) ?_
  refine lv_icmp_ne (tgt := 25) hx hb dX1_count_16 (by decide) (fun hc => absurd (rfl) hc) (fun _ => ?_)
  refine lv_aload_n hx hb dX1_count_19 rfl (lv_at hl 0 rfl) ?_
  refine rd_call (W.runV (As := []) (rest := []) S (cm_all l G a C T K D w 0) (cwV 0 hts (gX1_81 tb_cons) rfl rfl rfl (by decide +kernel) ⟨Nat.le_of_ble_eq_true rfl, Nat.le_of_ble_eq_true rfl⟩) (pM_V hP hK) rfl rfl hl.1 rfl (lv_room (Nat.le_of_ble_eq_true rfl)) dX1_count_20 ⟨Nat.zero_le _, Nat.zero_le _⟩) ?_
  refine lv_l2i hx hb dX1_count_23 rfl ?_
  exact W.iret hx hb hr (fun t ht _ => ⟨rfl, by rw [ht]; exact hP, hS.F ht⟩) hS.2.2 dX1_count_24
set_option maxHeartbeats 4000000 in
set_option maxRecDepth 100000 in
theorem cm_count_x (l : Launch) (G : va_G) (a : Nat → Nat) (C : Nat → ClassId) {A : Nat → Prop} (hD : ∀ T K D w th, va_D A (wM a C T K D w th)) (T : Nat → Bool) (K D : Nat → Int64) (w : Nat → Int32) (th : Int32) {x : Int32} (h0 : ¬ x = 0) (h1 : ¬ x = 1) (h2 : ¬ x = 2) : Met l yX1_count wsX1_count { frames := 1, cells := 0, slots := 0, locals := 30 } (va_Pc [.ref (a 0), .int x] (rM G a C T K D w th)) (wr_Q G vwCl (some (.int (-1))) (wM a C T K D w 0) A) 0 0 A := by
  refine q_open (cc := cX1_count) (maxL := 4) (ret := (some .int)) (by decide) rfl (Nat.le_of_ble_eq_true rfl) ?_
  intro p e s m below meth c ls S hr hlk hB hl
  obtain ⟨hx, hb, hml, hown, hts⟩ := id S
  obtain ⟨hP, hK⟩ := hB
  have hin : ∀ w ∈ u_ws RX1 TX1 5, w ∈ wsX1_count := fun w h => tb_cons w (hinX1 w h)
  have hS : va_S A s.heap s.heap [] := va_S.rf
  have hl : lv_has ls 4 [(0, .ref (a 0)), (1, .int x)] := hl
  refine lv_aload_n hx hb dX1_count_0 rfl (lv_at hl 0 rfl) ?_
  refine lv_iconst (v := 0) hx hb dX1_count_1 (by decide) ?_
  refine va_put (D := G) (ci := 1) (v := .int 0) (ty := .int) (C := RX1) (T := TX1) (N := 5) hx hb hts hin tyX1 tyX1_ok nmX1 hown hK hP (hD _ _ _ _ _) hS 0 rfl rfl 4 (by decide) (hts _ (tb_cons _ w_fl_X1_24)) (fun _ h9 => h9) rfl (by decide +kernel) rfl rfl (Nat.le_of_ble_eq_true rfl) dX1_count_2 (fun H locs hP _ hS => ?_)
  have hP : va_P G vwCl (wM a C T K D w 0) H := hP
  refine lv_iload_n hx hb dX1_count_5 rfl (lv_at hl 1 rfl) ?_
  refine lv_if_ne (tgt := 14) hx hb dX1_count_6 (by decide) (fun _ => ?_) (fun hc => absurd hc (h0))
  refine lv_iload_n hx hb dX1_count_14 rfl (lv_at hl 1 rfl) ?_
  refine lv_iconst (v := 1) hx hb dX1_count_15 (by decide) ?_
  refine lv_icmp_ne (tgt := 25) hx hb dX1_count_16 (by decide) (fun _ => ?_) (fun hc => absurd hc (h1))
  refine lv_iload_n hx hb dX1_count_25 rfl (lv_at hl 1 rfl) ?_
  refine lv_iconst (v := 2) hx hb dX1_count_26 (by decide) ?_
  refine lv_icmp_eq (tgt := 32) hx hb dX1_count_27 (by decide) (fun hc => absurd hc (h2)) (fun _ => ?_)
  refine lv_iconst (v := (-1)) hx hb dX1_count_30 (by decide) ?_
  exact W.iret hx hb hr (fun t ht _ => ⟨rfl, by rw [ht]; exact hP, hS.F ht⟩) hS.2.2 dX1_count_31
set_option maxHeartbeats 4000000 in
set_option maxRecDepth 100000 in
theorem cm_count_2 (l : Launch) (G : va_G) (a : Nat → Nat) (C : Nat → ClassId) {A : Nat → Prop} (hD : ∀ T K D w th, va_D A (wM a C T K D w th)) (T : Nat → Bool) (K D : Nat → Int64) (w : Nat → Int32) (th : Int32) : Met l yX1_count wsX1_count { frames := 1, cells := 0, slots := 0, locals := 30 } (va_Pc [.ref (a 0), .int 2] (rM G a C T K D w th)) (wr_Q G vwCl (some (.int (nI (ft_cnt (fun n => T n && decide (ft_ld T K w (K n) ≤ 0)) 200)))) (wM a C T K D w 0) A) 0 0 A := by
  refine q_open (cc := cX1_count) (maxL := 4) (ret := (some .int)) (by decide) rfl (Nat.le_of_ble_eq_true rfl) ?_
  intro p e s m below meth c ls S hr hlk hB hl
  obtain ⟨hx, hb, hml, hown, hts⟩ := id S
  obtain ⟨hP, hK⟩ := hB
  have hin : ∀ w ∈ u_ws RX1 TX1 5, w ∈ wsX1_count := fun w h => tb_cons w (hinX1 w h)
  have hS : va_S A s.heap s.heap [] := va_S.rf
  have hl : lv_has ls 4 [(0, .ref (a 0)), (1, .int 2)] := hl
  refine lv_aload_n hx hb dX1_count_0 rfl (lv_at hl 0 rfl) ?_
  refine lv_iconst (v := 0) hx hb dX1_count_1 (by decide) ?_
  refine va_put (D := G) (ci := 1) (v := .int 0) (ty := .int) (C := RX1) (T := TX1) (N := 5) hx hb hts hin tyX1 tyX1_ok nmX1 hown hK hP (hD _ _ _ _ _) hS 0 rfl rfl 4 (by decide) (hts _ (tb_cons _ w_fl_X1_24)) (fun _ h9 => h9) rfl (by decide +kernel) rfl rfl (Nat.le_of_ble_eq_true rfl) dX1_count_2 (fun H locs hP _ hS => ?_)
  have hP : va_P G vwCl (wM a C T K D w 0) H := hP
  refine lv_iload_n hx hb dX1_count_5 rfl (lv_at hl 1 rfl) ?_
  refine lv_if_ne (tgt := 14) hx hb dX1_count_6 (by decide) (fun _ => ?_) (fun hc => absurd hc (by decide))
  refine lv_iload_n hx hb dX1_count_14 rfl (lv_at hl 1 rfl) ?_
  refine lv_iconst (v := 1) hx hb dX1_count_15 (by decide) ?_
  refine lv_icmp_ne (tgt := 25) hx hb dX1_count_16 (by decide) (fun _ => ?_) (fun hc => absurd hc (by decide))
  refine lv_iload_n hx hb dX1_count_25 rfl (lv_at hl 1 rfl) ?_
  refine lv_iconst (v := 2) hx hb dX1_count_26 (by decide) ?_
  refine lv_icmp_eq (tgt := 32) hx hb dX1_count_27 (by decide) (fun _ => ?_) (fun hc => absurd (rfl) hc)
  refine lv_iconst (v := 0) hx hb dX1_count_32 (by decide) ?_
  refine q_topi (y := nI (ft_cnt (fun n => T n && decide (ft_ld T K w (K n) ≤ 0)) 0)) rfl ?_
  refine lv_istore_n hx hb dX1_count_33 rfl hl (by decide) rfl (fun ls hl => ?_)
  have hl : lv_has ls 4 [(2, .int (nI (ft_cnt (fun n => T n && decide (ft_ld T K w (K n) ≤ 0)) 0))), (0, .ref (a 0)), (1, .int 2)] := hl
  refine lv_iconst (v := 0) hx hb dX1_count_34 (by decide) ?_
  refine lv_istore_n hx hb dX1_count_35 rfl hl (by decide) rfl (fun ls hl => ?_)
  have hl : lv_has ls 4 [(3, .int 0), (2, .int (nI (ft_cnt (fun n => T n && decide (ft_ld T K w (K n) ≤ 0)) 0))), (0, .ref (a 0)), (1, .int 2)] := hl
  have loop : ∀ (k : Nat) (i : Nat), i + k = 200 → ∀ (H : Heap) (locs : List Loc), va_P G vwCl (wM a C T K D w 0) H → va_S A s.heap H locs → ∀ ls : Array Slot, lv_has ls 4 [(3, .int (nI i)), (2, .int (nI (ft_cnt (fun n => T n && decide (ft_ld T K w (K n) ≤ 0)) i))), (0, .ref (a 0))] → W p l e { frames := 1, cells := 0, slots := 0, locals := 30 } s m ([.ref (a 0), .int 2] : List Value).toArray below meth c H locs 0 0 (MQ below (wr_Q G vwCl (some (.int (nI (ft_cnt (fun n => T n && decide (ft_ld T K w (K n) ≤ 0)) 200)))) (wM a C T K D w 0) A) ([.ref (a 0), .int 2] : List Value).toArray s 0 0 A) (F0 m 36 ls []) := by
    intro k
    induction k with
    | zero =>
      intro i hi H locs hP hS ls hl
      refine lv_iload_n hx hb dX1_count_36 rfl (lv_at hl 0 rfl) ?_
      refine lv_sipush (v := 200) hx hb dX1_count_37 (by decide) ?_
      refine lv_icmp_ge (tgt := 71) hx hb dX1_count_40 (by decide) (fun _ => ?_) (fun hc => absurd (nI_le (a := 200) (by omega) (by omega)) hc)
      refine lv_iload_n hx hb dX1_count_71 rfl (lv_at hl 1 rfl) ?_
      have hi : i = 200 := hi
      exact W.iret hx hb hr (fun t ht _ => ⟨by rw [hi], by rw [ht]; exact hP, hS.F ht⟩) hS.2.2 dX1_count_72
    | succ k ih =>
      intro i hi H locs hP hS ls hl
      refine lv_iload_n hx hb dX1_count_36 rfl (lv_at hl 0 rfl) ?_
      refine lv_sipush (v := 200) hx hb dX1_count_37 (by decide) ?_
      refine lv_icmp_ge (tgt := 71) hx hb dX1_count_40 (by decide) (fun hc => absurd hc (nI_ge (b := 200) (by omega) (by decide))) (fun _ => ?_)
      refine lv_aload_n hx hb dX1_count_43 rfl (lv_at hl 2 rfl) ?_
      refine va_get (D := G) (ci := 1) (C := RX1) (T := TX1) (N := 5) hx hb hts hin hown hK hP 0 rfl rfl 0 (by decide) (hts _ (tb_cons _ w_fl_X1_9)) (fun _ h9 => h9) rfl dX1_count_44 ?_
      refine lv_iload_n hx hb dX1_count_47 rfl (lv_at hl 0 rfl) ?_
      refine q_zald hx hb hK hP 1 0 rfl rfl (i) rfl (by omega) (by decide) dX1_count_48 ?_
      by_cases hT : T i = true
      · refine q_topi (y := 1) (ft_tb_t hT) ?_
        refine lv_if_eq (tgt := 65) hx hb dX1_count_49 (by decide) (fun hc => absurd hc (by decide)) (fun _ => ?_)
        refine lv_aload_n hx hb dX1_count_52 rfl (lv_at hl 2 rfl) ?_
        refine lv_iload_n hx hb dX1_count_53 rfl (lv_at hl 0 rfl) ?_
        refine rd_call (W.runV (As := [.int (nI i)]) (rest := []) S (cm_lead l G a C T K D w 0 (j := i) (by omega)) (cwV 1 hts (gX1_75 tb_cons) rfl rfl rfl (by decide +kernel) ⟨Nat.le_of_ble_eq_true rfl, Nat.le_of_ble_eq_true rfl⟩) (pM_V hP hK) rfl rfl hl.1 rfl (lv_room (Nat.le_of_ble_eq_true rfl)) dX1_count_54 ⟨Nat.zero_le _, Nat.zero_le _⟩) ?_
        refine lv_lconst (v := 0) hx hb dX1_count_57 (by decide) ?_
        refine W.lcmp hx hb dX1_count_58 ?_
        refine lv_if_gt (tgt := 65) hx hb dX1_count_59 (by decide) (fun hld => ?_) (fun hld => ?_)
        · refine lv_iinc (k := 0) (v := nI (i + 1)) hx hb dX1_count_65 hl rfl (nI_succ i).symm (by decide) rfl (fun ls hl => ?_)
          have hl : lv_has ls 4 [(3, .int (nI (i + 1))), (2, .int (nI (ft_cnt (fun n => T n && decide (ft_ld T K w (K n) ≤ 0)) i))), (0, .ref (a 0))] := hl
          refine lv_goto (tgt := 36) hx hb dX1_count_68 (by decide) ?_
          exact ih (i + 1) (by omega) H locs hP hS ls (by rw [ft_cnt_f (P := (fun n => T n && decide (ft_ld T K w (K n) ≤ 0))) (nand2 (fun z => Int64.not_le.mpr ((lg_cmp_gt _ _).mp hld) (of_decide_eq_true z)))]; exact hl)
        · refine lv_iinc (k := 1) (v := nI (ft_cnt (fun n => T n && decide (ft_ld T K w (K n) ≤ 0)) (i + 1))) hx hb dX1_count_62 hl rfl (ft_cnt_t (P := (fun n => T n && decide (ft_ld T K w (K n) ≤ 0))) (yand hT (decide_eq_true (Int64.not_lt.mp (fun z => hld ((lg_cmp_gt _ _).mpr z)))))) (by decide) rfl (fun ls hl => ?_)
          have hl : lv_has ls 4 [(2, .int (nI (ft_cnt (fun n => T n && decide (ft_ld T K w (K n) ≤ 0)) (i + 1)))), (3, .int (nI i)), (0, .ref (a 0))] := hl
          refine lv_iinc (k := 1) (v := nI (i + 1)) hx hb dX1_count_65 hl rfl (nI_succ i).symm (by decide) rfl (fun ls hl => ?_)
          have hl : lv_has ls 4 [(3, .int (nI (i + 1))), (2, .int (nI (ft_cnt (fun n => T n && decide (ft_ld T K w (K n) ≤ 0)) (i + 1)))), (0, .ref (a 0))] := hl
          refine lv_goto (tgt := 36) hx hb dX1_count_68 (by decide) ?_
          exact ih (i + 1) (by omega) H locs hP hS ls hl
      · refine q_topi (y := 0) (ft_tb_f hT) ?_
        refine lv_if_eq (tgt := 65) hx hb dX1_count_49 (by decide) (fun _ => ?_) (fun hc => absurd (rfl) hc)
        refine lv_iinc (k := 0) (v := nI (i + 1)) hx hb dX1_count_65 hl rfl (nI_succ i).symm (by decide) rfl (fun ls hl => ?_)
        have hl : lv_has ls 4 [(3, .int (nI (i + 1))), (2, .int (nI (ft_cnt (fun n => T n && decide (ft_ld T K w (K n) ≤ 0)) i))), (0, .ref (a 0))] := hl
        refine lv_goto (tgt := 36) hx hb dX1_count_68 (by decide) ?_
        exact ih (i + 1) (by omega) H locs hP hS ls (by rw [ft_cnt_f (P := (fun n => T n && decide (ft_ld T K w (K n) ≤ 0))) (nand1 hT)]; exact hl)
  exact loop 200 0 (by omega) H locs hP hS ls (lv_sub hl [0, 1, 2] rfl)
