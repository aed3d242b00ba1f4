set_option maxHeartbeats 4000000 in
set_option maxRecDepth 100000 in
theorem cm_half (l : Launch) (G : va_G) (a : Nat → Nat) (C : Nat → ClassId) {A : Nat → Prop} (hD : ∀ T K D w th, va_D A (wM a C T K D w th)) (T : Nat → Bool) (K D : Nat → Int64) (w : Nat → Int32) (th : Int32) : Met l yX1_half wsX1_half { frames := 1, cells := 0, slots := 0, locals := 30 } (va_Pc [.ref (a 0)] (rM G a C T K D w th)) (wr_Q G vwCl (some (.int (ft_or (ft_gf (ft_mnS (ft_halfP T K w) (fun n b => ft_sb K (K b) (nI b) n)) none 200)))) (wM a C T K D w (ft_ot (ft_gf (ft_mnS (ft_halfP T K w) (fun n b => ft_sb K (K b) (nI b) n)) none 200))) A) 0 0 A := by
  refine q_open (cc := cX1_half) (maxL := 6) (ret := (some .int)) (by decide) rfl (Nat.le_of_ble_eq_true rfl) ?_
  intro p e s m below meth c ls S hr hlk hB hl
  obtain ⟨hx, hb, hml, hown, hts⟩ := id S
  obtain ⟨hP, hK⟩ := hB
  have hin : ∀ w ∈ u_ws RX1 TX1 5, w ∈ wsX1_half := fun w h => tb_cons w (hinX1 w h)
  have hS : va_S A s.heap s.heap [] := va_S.rf
  have hl : lv_has ls 6 [(0, .ref (a 0))] := hl
  refine lv_aload_n hx hb dX1_half_0 rfl (lv_at hl 0 rfl) ?_
  refine lv_iconst (v := 0) hx hb dX1_half_1 (by decide) ?_
  refine va_put (D := G) (ci := 1) (v := .int 0) (ty := .int) (C := RX1) (T := TX1) (N := 5) hx hb hts hin tyX1 tyX1_ok nmX1 hown hK hP (hD _ _ _ _ _) hS 0 rfl rfl 4 (by decide) (hts _ (tb_cons _ w_fl_X1_24)) (fun _ h9 => h9) rfl (by decide +kernel) rfl rfl (Nat.le_of_ble_eq_true rfl) dX1_half_2 (fun H locs hP _ hS => ?_)
  have hP : va_P G vwCl (wM a C T K D w 0) H := hP
  refine lv_iconst (v := (-1)) hx hb dX1_half_5 (by decide) ?_
  refine q_topi (y := ft_ob none) rfl ?_
  refine lv_istore_n hx hb dX1_half_6 rfl hl (by decide) rfl (fun ls hl => ?_)
  have hl : lv_has ls 6 [(1, .int (ft_ob none)), (0, .ref (a 0))] := hl
  refine lv_iconst (v := 0) hx hb dX1_half_7 (by decide) ?_
  refine lv_istore_n hx hb dX1_half_8 rfl hl (by decide) rfl (fun ls hl => ?_)
  have hl : lv_has ls 6 [(2, .int 0), (1, .int (ft_ob none)), (0, .ref (a 0))] := hl
  have loop : ∀ (k : Nat) (i : Nat) (acc : Option Nat), i + k = 200 → ft_gf (ft_mnS (ft_halfP T K w) (fun n b => ft_sb K (K b) (nI b) n)) none i = acc → (∀ b, acc = some b → b < 200) → ∀ (H : Heap) (locs : List Loc), va_P G vwCl (wM a C T K D w 0) H → va_S A s.heap H locs → ∀ ls : Array Slot, lv_has ls 6 [(2, .int (nI i)), (1, .int (ft_ob acc)), (0, .ref (a 0))] → W p l e { frames := 1, cells := 0, slots := 0, locals := 30 } s m ([.ref (a 0)] : List Value).toArray below meth c H locs 0 0 (MQ below (wr_Q G vwCl (some (.int (ft_or (ft_gf (ft_mnS (ft_halfP T K w) (fun n b => ft_sb K (K b) (nI b) n)) none 200)))) (wM a C T K D w (ft_ot (ft_gf (ft_mnS (ft_halfP T K w) (fun n b => ft_sb K (K b) (nI b) n)) none 200))) A) ([.ref (a 0)] : List Value).toArray s 0 0 A) (F0 m 9 ls []) := by
    intro k
    induction k with
    | zero =>
      intro i acc hi he hbb H locs hP hS ls hl
      refine lv_iload_n hx hb dX1_half_9 rfl (lv_at hl 0 rfl) ?_
      refine lv_sipush (v := 200) hx hb dX1_half_10 (by decide) ?_
      refine lv_icmp_ge (tgt := 119) hx hb dX1_half_13 (by decide) (fun _ => ?_) (fun hc => absurd (nI_le (a := 200) (by omega) (by omega)) hc)
      have e9 : i = 200 := hi
      rw [e9] at he
      rw [he]
      refine lv_iload_n hx hb dX1_half_119 rfl (lv_at hl 1 rfl) ?_
      refine lv_iconst (v := (-1)) hx hb dX1_half_120 (by decide) ?_
      cases acc with
      | none =>
        refine lv_icmp_ne (tgt := 132) hx hb dX1_half_121 (by decide) (fun hc => absurd (rfl) hc) (fun _ => ?_)
        refine lv_aload_n hx hb dX1_half_124 rfl (lv_at hl 2 rfl) ?_
        refine lv_iconst (v := 1) hx hb dX1_half_125 (by decide) ?_
        refine wr_call (W.runV (As := [.int 1]) (rest := []) S (cm_fail l G a C hD T K D w 0) (cwV 1 hts (gX1_52 tb_cons) rfl rfl rfl (by decide +kernel) ⟨Nat.le_of_ble_eq_true rfl, Nat.le_of_ble_eq_true rfl⟩) (pM_V hP hK) rfl rfl hl.1 rfl (lv_room (Nat.le_of_ble_eq_true rfl)) dX1_half_126 ⟨Nat.zero_le _, Nat.zero_le _⟩) hS (fun _ h => h) (fun H locs hP hS _ _ => ?_)
        have hP : va_P G vwCl (wM a C T K D w 1) H := hP
        refine W.eq (g2 := F0 m 129 ls [.int 0]) rfl ?_
        refine lv_goto (tgt := 133) hx hb dX1_half_129 (by decide) ?_
        exact W.iret hx hb hr (fun t ht _ => ⟨rfl, by rw [ht]; exact hP, hS.F ht⟩) hS.2.2 dX1_half_133
      | some b =>
        refine lv_icmp_ne (tgt := 132) hx hb dX1_half_121 (by decide) (fun _ => ?_) (fun hc => absurd hc (nI_ne_m1 (hbb b rfl)))
        refine lv_iload_n hx hb dX1_half_132 rfl (lv_at hl 1 rfl) ?_
        exact W.iret hx hb hr (fun t ht _ => ⟨rfl, by rw [ht]; exact hP, hS.F ht⟩) hS.2.2 dX1_half_133
    | succ k ih =>
      intro i acc hi he hbb H locs hP hS ls hl
      refine lv_iload_n hx hb dX1_half_9 rfl (lv_at hl 0 rfl) ?_
      refine lv_sipush (v := 200) hx hb dX1_half_10 (by decide) ?_
      refine lv_icmp_ge (tgt := 119) hx hb dX1_half_13 (by decide) (fun hc => absurd hc (nI_ge (b := 200) (by omega) (by decide))) (fun _ => ?_)
      refine lv_aload_n hx hb dX1_half_16 rfl (lv_at hl 2 rfl) ?_
      refine va_get (D := G) (ci := 1) (C := RX1) (T := TX1) (N := 5) hx hb hts hin hown hK hP 0 rfl rfl 0 (by decide) (hts _ (tb_cons _ w_fl_X1_9)) (fun _ h9 => h9) rfl dX1_half_17 ?_
      refine lv_iload_n hx hb dX1_half_20 rfl (lv_at hl 0 rfl) ?_
      refine q_zald hx hb hK hP 1 0 rfl rfl (i) rfl (by omega) (by decide) dX1_half_21 ?_
      by_cases hT : T i = true
      · refine q_topi (y := 1) (ft_tb_t hT) ?_
        refine lv_if_ne (tgt := 28) hx hb dX1_half_22 (by decide) (fun _ => ?_) (fun hc => absurd hc (by decide))
        refine lv_aload_n hx hb dX1_half_28 rfl (lv_at hl 2 rfl) ?_
        refine va_get (D := G) (ci := 1) (C := RX1) (T := TX1) (N := 5) hx hb hts hin hown hK hP 0 rfl rfl 3 (by decide) (hts _ (tb_cons _ w_fl_X1_20)) (fun _ h9 => h9) rfl dX1_half_29 ?_
        refine lv_iload_n hx hb dX1_half_32 rfl (lv_at hl 0 rfl) ?_
        refine q_iald hx hb hK hP 4 3 rfl rfl (i) rfl (by omega) (by decide) dX1_half_33 ?_
        refine lv_i2l hx hb dX1_half_34 rfl ?_
        refine q_topl (y := (ft_gf (fun n acc => if (T n && ft_sb K (K i) (nI i) n) = true then acc + (w n).toInt64 else acc) (w i).toInt64 0)) rfl ?_
        refine lv_lstore_n hx hb dX1_half_35 rfl hl (by decide) rfl (fun ls hl => ?_)
        have hl : lv_has ls 6 [(3, .long (ft_gf (fun n acc => if (T n && ft_sb K (K i) (nI i) n) = true then acc + (w n).toInt64 else acc) (w i).toInt64 0)), (2, .int (nI i)), (1, .int (ft_ob acc)), (0, .ref (a 0))] := hl
        refine lv_iconst (v := 0) hx hb dX1_half_36 (by decide) ?_
        refine lv_istore hx hb dX1_half_37 hl (by decide) rfl (fun ls hl => ?_)
        have hl : lv_has ls 6 [(5, .int 0), (3, .long (ft_gf (fun n acc => if (T n && ft_sb K (K i) (nI i) n) = true then acc + (w n).toInt64 else acc) (w i).toInt64 0)), (2, .int (nI i)), (1, .int (ft_ob acc)), (0, .ref (a 0))] := hl
        have cont : ∀ ls : Array Slot, lv_has ls 6 [(5, .int (nI 200)), (3, .long (ft_gf (fun n acc => if (T n && ft_sb K (K i) (nI i) n) = true then acc + (w n).toInt64 else acc) (w i).toInt64 200)), (2, .int (nI i)), (1, .int (ft_ob acc)), (0, .ref (a 0))] → W p l e { frames := 1, cells := 0, slots := 0, locals := 30 } s m ([.ref (a 0)] : List Value).toArray below meth c H locs 0 0 (MQ below (wr_Q G vwCl (some (.int (ft_or (ft_gf (ft_mnS (ft_halfP T K w) (fun n b => ft_sb K (K b) (nI b) n)) none 200)))) (wM a C T K D w (ft_ot (ft_gf (ft_mnS (ft_halfP T K w) (fun n b => ft_sb K (K b) (nI b) n)) none 200))) A) ([.ref (a 0)] : List Value).toArray s 0 0 A) (F0 m 84 ls []) := by
          intro ls hl
          refine lv_ldc2 (v := 2) hx hb hown (hts _ (tb_cons _ w_k_X1_79)) dX1_half_84 ?_
          refine lv_lload_n hx hb dX1_half_87 rfl (lv_at hl 1 rfl) ?_
          refine lv_lmul hx hb dX1_half_88 ?_
          refine lv_aload_n hx hb dX1_half_89 rfl (lv_at hl 4 rfl) ?_
          refine rd_call (W.runV (As := []) (rest := [.long (2 * (ft_gf (fun n acc => if (T n && ft_sb K (K i) (nI i) n) = true then acc + (w n).toInt64 else acc) (w i).toInt64 200))]) S (cm_all l G a C T K D w 0) (cwV 0 hts (gX1_81 tb_cons) rfl rfl rfl (by decide +kernel) ⟨Nat.le_of_ble_eq_true rfl, Nat.le_of_ble_eq_true rfl⟩) (pM_V hP hK) rfl rfl hl.1 rfl (lv_room (Nat.le_of_ble_eq_true rfl)) dX1_half_90 ⟨Nat.zero_le _, Nat.zero_le _⟩) ?_
          refine W.lcmp hx hb dX1_half_93 ?_
          refine lv_if_lt (tgt := 113) hx hb dX1_half_94 (by decide) (fun hq => ?_) (fun hq => ?_)
          · refine lv_iinc (k := 2) (v := nI (i + 1)) hx hb dX1_half_113 hl rfl (nI_succ i).symm (by decide) rfl (fun ls hl => ?_)
            have hl : lv_has ls 6 [(2, .int (nI (i + 1))), (5, .int (nI 200)), (3, .long (ft_gf (fun n acc => if (T n && ft_sb K (K i) (nI i) n) = true then acc + (w n).toInt64 else acc) (w i).toInt64 200)), (1, .int (ft_ob acc)), (0, .ref (a 0))] := hl
            refine lv_goto (tgt := 9) hx hb dX1_half_116 (by decide) ?_
            exact ih (i + 1) acc (by omega) (ft_gf_s he (ft_mnS_f1 (nand2 (fun z => Int64.not_le.mpr ((lg_cmp_lt _ _).mp hq) (of_decide_eq_true z))))) hbb H locs hP hS ls (lv_sub hl [0, 3, 4] rfl)
          · have hp : ft_halfP T K w i = true := yand hT (decide_eq_true (Int64.not_lt.mp (fun z => hq ((lg_cmp_lt _ _).mpr z))))
            refine lv_iload_n hx hb dX1_half_97 rfl (lv_at hl 3 rfl) ?_
            refine lv_iconst (v := (-1)) hx hb dX1_half_98 (by decide) ?_
            cases acc with
            | none =>
              refine lv_icmp_eq (tgt := 111) hx hb dX1_half_99 (by decide) (fun _ => ?_) (fun hc => absurd (rfl) hc)
              refine lv_iload_n hx hb dX1_half_111 rfl (lv_at hl 2 rfl) ?_
              refine lv_istore_n hx hb dX1_half_112 rfl hl (by decide) rfl (fun ls hl => ?_)
              have hl : lv_has ls 6 [(1, .int (nI i)), (5, .int (nI 200)), (3, .long (ft_gf (fun n acc => if (T n && ft_sb K (K i) (nI i) n) = true then acc + (w n).toInt64 else acc) (w i).toInt64 200)), (2, .int (nI i)), (0, .ref (a 0))] := hl
              refine lv_iinc (k := 3) (v := nI (i + 1)) hx hb dX1_half_113 hl rfl (nI_succ i).symm (by decide) rfl (fun ls hl => ?_)
              have hl : lv_has ls 6 [(2, .int (nI (i + 1))), (1, .int (nI i)), (5, .int (nI 200)), (3, .long (ft_gf (fun n acc => if (T n && ft_sb K (K i) (nI i) n) = true then acc + (w n).toInt64 else acc) (w i).toInt64 200)), (0, .ref (a 0))] := hl
              refine lv_goto (tgt := 9) hx hb dX1_half_116 (by decide) ?_
              exact ih (i + 1) (some i) (by omega) (ft_gf_s he (ft_mnS_t hp rfl)) (fun b e => by cases e; omega) H locs hP hS ls (lv_sub hl [0, 1, 4] rfl)
            | some b =>
              refine lv_icmp_eq (tgt := 111) hx hb dX1_half_99 (by decide) (fun hc => absurd hc (nI_ne_m1 (hbb b rfl))) (fun _ => ?_)
              refine lv_aload_n hx hb dX1_half_102 rfl (lv_at hl 4 rfl) ?_
              refine lv_iload_n hx hb dX1_half_103 rfl (lv_at hl 2 rfl) ?_
              refine lv_iload_n hx hb dX1_half_104 rfl (lv_at hl 3 rfl) ?_
              refine rd_call (W.runV (As := [.int (nI i), .int (nI b)]) (rest := []) S (cm_before l G a C T K D w 0 (j := i) (f := b) (by omega) (hbb b rfl)) (cwV 2 hts (gX1_62 tb_cons) rfl rfl rfl (by decide +kernel) ⟨Nat.le_of_ble_eq_true rfl, Nat.le_of_ble_eq_true rfl⟩) (pM_V hP hK) rfl rfl hl.1 rfl (lv_room (Nat.le_of_ble_eq_true rfl)) dX1_half_105 ⟨Nat.zero_le _, Nat.zero_le _⟩) ?_
              by_cases hz : ft_sb K (K b) (nI b) i = true
              · rw [if_pos hz]
                refine lv_if_eq (tgt := 113) hx hb dX1_half_108 (by decide) (fun hc => absurd hc (by decide)) (fun _ => ?_)
                refine lv_iload_n hx hb dX1_half_111 rfl (lv_at hl 2 rfl) ?_
                refine lv_istore_n hx hb dX1_half_112 rfl hl (by decide) rfl (fun ls hl => ?_)
                have hl : lv_has ls 6 [(1, .int (nI i)), (5, .int (nI 200)), (3, .long (ft_gf (fun n acc => if (T n && ft_sb K (K i) (nI i) n) = true then acc + (w n).toInt64 else acc) (w i).toInt64 200)), (2, .int (nI i)), (0, .ref (a 0))] := hl
                refine lv_iinc (k := 3) (v := nI (i + 1)) hx hb dX1_half_113 hl rfl (nI_succ i).symm (by decide) rfl (fun ls hl => ?_)
                have hl : lv_has ls 6 [(2, .int (nI (i + 1))), (1, .int (nI i)), (5, .int (nI 200)), (3, .long (ft_gf (fun n acc => if (T n && ft_sb K (K i) (nI i) n) = true then acc + (w n).toInt64 else acc) (w i).toInt64 200)), (0, .ref (a 0))] := hl
                refine lv_goto (tgt := 9) hx hb dX1_half_116 (by decide) ?_
                exact ih (i + 1) (some i) (by omega) (ft_gf_s he (ft_mnS_t hp hz)) (fun b e => by cases e; omega) H locs hP hS ls (lv_sub hl [0, 1, 4] rfl)
              · rw [if_neg hz]
                refine lv_if_eq (tgt := 113) hx hb dX1_half_108 (by decide) (fun _ => ?_) (fun hc => absurd (rfl) hc)
                refine lv_iinc (k := 2) (v := nI (i + 1)) hx hb dX1_half_113 hl rfl (nI_succ i).symm (by decide) rfl (fun ls hl => ?_)
                have hl : lv_has ls 6 [(2, .int (nI (i + 1))), (5, .int (nI 200)), (3, .long (ft_gf (fun n acc => if (T n && ft_sb K (K i) (nI i) n) = true then acc + (w n).toInt64 else acc) (w i).toInt64 200)), (1, .int (ft_ob (some b))), (0, .ref (a 0))] := hl
                refine lv_goto (tgt := 9) hx hb dX1_half_116 (by decide) ?_
                exact ih (i + 1) (some b) (by omega) (ft_gf_s he (ft_mnS_f2 hz)) hbb H locs hP hS ls (lv_sub hl [0, 3, 4] rfl)
        have inner : ∀ (k2 n : Nat), n + k2 = 200 → ∀ ls : Array Slot, lv_has ls 6 [(5, .int (nI n)), (3, .long (ft_gf (fun n acc => if (T n && ft_sb K (K i) (nI i) n) = true then acc + (w n).toInt64 else acc) (w i).toInt64 n)), (2, .int (nI i)), (1, .int (ft_ob acc)), (0, .ref (a 0))] → W p l e { frames := 1, cells := 0, slots := 0, locals := 30 } s m ([.ref (a 0)] : List Value).toArray below meth c H locs 0 0 (MQ below (wr_Q G vwCl (some (.int (ft_or (ft_gf (ft_mnS (ft_halfP T K w) (fun n b => ft_sb K (K b) (nI b) n)) none 200)))) (wM a C T K D w (ft_ot (ft_gf (ft_mnS (ft_halfP T K w) (fun n b => ft_sb K (K b) (nI b) n)) none 200))) A) ([.ref (a 0)] : List Value).toArray s 0 0 A) (F0 m 39 ls []) := by
          intro k2
          induction k2 with
          | zero =>
            intro n hn ls hl
            refine lv_iload hx hb dX1_half_39 (lv_at hl 0 rfl) ?_
            refine lv_sipush (v := 200) hx hb dX1_half_41 (by decide) ?_
            refine lv_icmp_ge (tgt := 84) hx hb dX1_half_44 (by decide) (fun _ => ?_) (fun hc => absurd (nI_le (a := 200) (by omega) (by omega)) hc)
            have hn : n = 200 := hn
            rw [hn] at hl
            exact cont ls hl
          | succ k2 ih2 =>
            intro n hn ls hl
            refine lv_iload hx hb dX1_half_39 (lv_at hl 0 rfl) ?_
            refine lv_sipush (v := 200) hx hb dX1_half_41 (by decide) ?_
            refine lv_icmp_ge (tgt := 84) hx hb dX1_half_44 (by decide) (fun hc => absurd hc (nI_ge (b := 200) (by omega) (by decide))) (fun _ => ?_)
            refine lv_aload_n hx hb dX1_half_47 rfl (lv_at hl 4 rfl) ?_
            refine va_get (D := G) (ci := 1) (C := RX1) (T := TX1) (N := 5) hx hb hts hin hown hK hP 0 rfl rfl 0 (by decide) (hts _ (tb_cons _ w_fl_X1_9)) (fun _ h9 => h9) rfl dX1_half_48 ?_
            refine lv_iload hx hb dX1_half_51 (lv_at hl 0 rfl) ?_
            refine q_zald hx hb hK hP 1 0 rfl rfl (n) rfl (by omega) (by decide) dX1_half_53 ?_
            by_cases hT2 : T n = true
            · refine q_topi (y := 1) (ft_tb_t hT2) ?_
              refine lv_if_eq (tgt := 78) hx hb dX1_half_54 (by decide) (fun hc => absurd hc (by decide)) (fun _ => ?_)
              refine lv_aload_n hx hb dX1_half_57 rfl (lv_at hl 4 rfl) ?_
              refine lv_iload hx hb dX1_half_58 (lv_at hl 0 rfl) ?_
              refine lv_iload_n hx hb dX1_half_60 rfl (lv_at hl 2 rfl) ?_
              refine rd_call (W.runV (As := [.int (nI n), .int (nI i)]) (rest := []) S (cm_before l G a C T K D w 0 (j := n) (f := i) (by omega) (by omega)) (cwV 2 hts (gX1_62 tb_cons) rfl rfl rfl (by decide +kernel) ⟨Nat.le_of_ble_eq_true rfl, Nat.le_of_ble_eq_true rfl⟩) (pM_V hP hK) rfl rfl hl.1 rfl (lv_room (Nat.le_of_ble_eq_true rfl)) dX1_half_61 ⟨Nat.zero_le _, Nat.zero_le _⟩) ?_
              by_cases hz : ft_sb K (K i) (nI i) n = true
              · rw [if_pos hz]
                refine lv_if_eq (tgt := 78) hx hb dX1_half_64 (by decide) (fun hc => absurd hc (by decide)) (fun _ => ?_)
                refine lv_lload_n hx hb dX1_half_67 rfl (lv_at hl 1 rfl) ?_
                refine lv_aload_n hx hb dX1_half_68 rfl (lv_at hl 4 rfl) ?_
                refine va_get (D := G) (ci := 1) (C := RX1) (T := TX1) (N := 5) hx hb hts hin hown hK hP 0 rfl rfl 3 (by decide) (hts _ (tb_cons _ w_fl_X1_20)) (fun _ h9 => h9) rfl dX1_half_69 ?_
                refine lv_iload hx hb dX1_half_72 (lv_at hl 0 rfl) ?_
                refine q_iald hx hb hK hP 4 3 rfl rfl (n) rfl (by omega) (by decide) dX1_half_74 ?_
                refine lv_i2l hx hb dX1_half_75 rfl ?_
                refine lv_ladd hx hb dX1_half_76 ?_
                refine q_topl (y := (ft_gf (fun n acc => if (T n && ft_sb K (K i) (nI i) n) = true then acc + (w n).toInt64 else acc) (w i).toInt64 (n + 1))) (ft_gf_t (P := fun n => T n && ft_sb K (K i) (nI i) n) (g := fun n acc => acc + (w n).toInt64) (yand hT2 hz)) ?_
                refine lv_lstore_n hx hb dX1_half_77 rfl hl (by decide) rfl (fun ls hl => ?_)
                have hl : lv_has ls 6 [(3, .long (ft_gf (fun n acc => if (T n && ft_sb K (K i) (nI i) n) = true then acc + (w n).toInt64 else acc) (w i).toInt64 (n + 1))), (5, .int (nI n)), (2, .int (nI i)), (1, .int (ft_ob acc)), (0, .ref (a 0))] := hl
                refine lv_iinc (k := 1) (v := nI (n + 1)) hx hb dX1_half_78 hl rfl (nI_succ n).symm (by decide) rfl (fun ls hl => ?_)
                have hl : lv_has ls 6 [(5, .int (nI (n + 1))), (3, .long (ft_gf (fun n acc => if (T n && ft_sb K (K i) (nI i) n) = true then acc + (w n).toInt64 else acc) (w i).toInt64 (n + 1))), (2, .int (nI i)), (1, .int (ft_ob acc)), (0, .ref (a 0))] := hl
                refine lv_goto (tgt := 39) hx hb dX1_half_81 (by decide) ?_
                exact ih2 (n + 1) (by omega) ls hl
              · rw [if_neg hz]
                refine lv_if_eq (tgt := 78) hx hb dX1_half_64 (by decide) (fun _ => ?_) (fun hc => absurd (rfl) hc)
                refine lv_iinc (k := 0) (v := nI (n + 1)) hx hb dX1_half_78 hl rfl (nI_succ n).symm (by decide) rfl (fun ls hl => ?_)
                have hl : lv_has ls 6 [(5, .int (nI (n + 1))), (3, .long (ft_gf (fun n acc => if (T n && ft_sb K (K i) (nI i) n) = true then acc + (w n).toInt64 else acc) (w i).toInt64 n)), (2, .int (nI i)), (1, .int (ft_ob acc)), (0, .ref (a 0))] := hl
                refine lv_goto (tgt := 39) hx hb dX1_half_81 (by decide) ?_
                exact ih2 (n + 1) (by omega) ls (by rw [ft_gf_f (P := fun n => T n && ft_sb K (K i) (nI i) n) (g := fun n acc => acc + (w n).toInt64) (nand2 hz)]; exact hl)
            · refine q_topi (y := 0) (ft_tb_f hT2) ?_
              refine lv_if_eq (tgt := 78) hx hb dX1_half_54 (by decide) (fun _ => ?_) (fun hc => absurd (rfl) hc)
              refine lv_iinc (k := 0) (v := nI (n + 1)) hx hb dX1_half_78 hl rfl (nI_succ n).symm (by decide) rfl (fun ls hl => ?_)
              have hl : lv_has ls 6 [(5, .int (nI (n + 1))), (3, .long (ft_gf (fun n acc => if (T n && ft_sb K (K i) (nI i) n) = true then acc + (w n).toInt64 else acc) (w i).toInt64 n)), (2, .int (nI i)), (1, .int (ft_ob acc)), (0, .ref (a 0))] := hl
              refine lv_goto (tgt := 39) hx hb dX1_half_81 (by decide) ?_
              exact ih2 (n + 1) (by omega) ls (by rw [ft_gf_f (P := fun n => T n && ft_sb K (K i) (nI i) n) (g := fun n acc => acc + (w n).toInt64) (nand1 hT2)]; exact hl)
        exact inner 200 0 (by omega) ls hl
      · refine q_topi (y := 0) (ft_tb_f hT) ?_
        refine lv_if_ne (tgt := 28) hx hb dX1_half_22 (by decide) (fun hc => absurd (rfl) hc) (fun _ => ?_)
        refine lv_goto (tgt := 113) hx hb dX1_half_25 (by decide) ?_
        refine lv_iinc (k := 0) (v := nI (i + 1)) hx hb dX1_half_113 hl rfl (nI_succ i).symm (by decide) rfl (fun ls hl => ?_)
        have hl : lv_has ls 6 [(2, .int (nI (i + 1))), (1, .int (ft_ob acc)), (0, .ref (a 0))] := hl
        refine lv_goto (tgt := 9) hx hb dX1_half_116 (by decide) ?_
        exact ih (i + 1) acc (by omega) (ft_gf_s he (ft_mnS_f1 (fun z => nand1 hT z))) hbb H locs hP hS ls hl
  exact loop 200 0 none (by omega) rfl (fun b e => by cases e) H locs hP hS ls hl
set_option maxHeartbeats 4000000 in
set_option maxRecDepth 100000 in
theorem cm_nearest_few (l : Launch) (G : va_G) (a : Nat → Nat) (C : Nat → ClassId) {A : Nat → Prop} (hD : ∀ T K D w th, va_D A (wM a C T K D w th)) (T : Nat → Bool) (K D : Nat → Int64) (w : Nat → Int32) (th : Int32) (h : ft_cnt T 200 < 2) : Met l yX1_nearest wsX1_nearest { frames := 1, cells := 0, slots := 0, locals := 30 } (va_Pc [.ref (a 0)] (rM G a C T K D w th)) (wr_Q G vwCl (some (.long 0)) (wM a C T K D w 1) A) 0 0 A := by
  refine q_open (cc := cX1_nearest) (maxL := 5) (ret := (some .long)) (by decide) rfl (Nat.le_of_ble_eq_true rfl) ?_
  intro p e s m below meth c ls S hr hlk hB hl
  obtain ⟨hx, hb, hml, hown, hts⟩ := id S
  obtain ⟨hP, hK⟩ := hB
  have hin : ∀ w ∈ u_ws RX1 TX1 5, w ∈ wsX1_nearest := fun w h => tb_cons w (hinX1 w h)
  have hS : va_S A s.heap s.heap [] := va_S.rf
  have hl : lv_has ls 5 [(0, .ref (a 0))] := hl
  refine lv_aload_n hx hb dX1_nearest_0 rfl (lv_at hl 0 rfl) ?_
  refine lv_aload_n hx hb dX1_nearest_1 rfl (lv_at hl 0 rfl) ?_
  refine rd_call (W.runV (As := []) (rest := [.ref (a 0)]) S (cm_many l G a C T K D w th) (cwV 0 hts (gX1_32 tb_cons) rfl rfl rfl (by decide +kernel) ⟨Nat.le_of_ble_eq_true rfl, Nat.le_of_ble_eq_true rfl⟩) (pM_V hP hK) rfl rfl hl.1 rfl (lv_room (Nat.le_of_ble_eq_true rfl)) dX1_nearest_2 ⟨Nat.zero_le _, Nat.zero_le _⟩) ?_
  refine lv_iconst (v := 2) hx hb dX1_nearest_5 (by decide) ?_
  refine lv_icmp_ge (tgt := 13) hx hb dX1_nearest_6 (by decide) (fun hc => absurd hc (nI_ge (a := ft_cnt T 200) (b := 2) h (by decide))) (fun _ => ?_)
  refine lv_iconst (v := 1) hx hb dX1_nearest_9 (by decide) ?_
  refine lv_goto (tgt := 14) hx hb dX1_nearest_10 (by decide) ?_
  refine va_put (D := G) (ci := 1) (v := .int 1) (ty := .int) (C := RX1) (T := TX1) (N := 5) hx hb hts hin tyX1 tyX1_ok nmX1 hown hK hP (hD _ _ _ _ _) hS 0 rfl rfl 4 (by decide) (hts _ (tb_cons _ w_fl_X1_24)) (fun _ h9 => h9) rfl (by decide +kernel) rfl rfl (Nat.le_of_ble_eq_true rfl) dX1_nearest_14 (fun H locs hP _ hS => ?_)
  have hP : va_P G vwCl (wM a C T K D w 1) H := hP
  refine lv_ldc2 (v := 9223372036854775807) hx hb hown (hts _ (tb_cons _ w_k_X1_42)) dX1_nearest_17 ?_
  refine lv_lstore_n hx hb dX1_nearest_20 rfl hl (by decide) rfl (fun ls hl => ?_)
  have hl : lv_has ls 5 [(1, .long 9223372036854775807), (0, .ref (a 0))] := hl
  refine lv_iconst (v := 0) hx hb dX1_nearest_21 (by decide) ?_
  refine lv_istore_n hx hb dX1_nearest_22 rfl hl (by decide) rfl (fun ls hl => ?_)
  have hl : lv_has ls 5 [(3, .int 0), (1, .long 9223372036854775807), (0, .ref (a 0))] := hl
  refine lv_iload_n hx hb dX1_nearest_23 rfl (lv_at hl 0 rfl) ?_
  refine lv_sipush (v := 200) hx hb dX1_nearest_24 (by decide) ?_
  refine lv_icmp_ge (tgt := 130) hx hb dX1_nearest_27 (by decide) (fun hc => absurd hc (nI_ge (a := 0) (b := 200) (by decide) (by decide))) (fun _ => ?_)
  refine lv_aload_n hx hb dX1_nearest_30 rfl (lv_at hl 2 rfl) ?_
  refine va_get (D := G) (ci := 1) (C := RX1) (T := TX1) (N := 5) hx hb hts hin hown hK hP 0 rfl rfl 4 (by decide) (hts _ (tb_cons _ w_fl_X1_24)) (fun _ h9 => h9) rfl dX1_nearest_31 ?_
  refine lv_if_ne (tgt := 130) hx hb dX1_nearest_34 (by decide) (fun _ => ?_) (fun hc => absurd hc (by decide))
  refine lv_aload_n hx hb dX1_nearest_130 rfl (lv_at hl 2 rfl) ?_
  refine va_get (D := G) (ci := 1) (C := RX1) (T := TX1) (N := 5) hx hb hts hin hown hK hP 0 rfl rfl 4 (by decide) (hts _ (tb_cons _ w_fl_X1_24)) (fun _ h9 => h9) rfl dX1_nearest_131 ?_
  refine lv_if_le (tgt := 141) hx hb dX1_nearest_134 (by decide) (fun hc => absurd hc (by decide)) (fun _ => ?_)
  refine lv_lconst (v := 0) hx hb dX1_nearest_137 (by decide) ?_
  refine lv_goto (tgt := 142) hx hb dX1_nearest_138 (by decide) ?_
  exact W.lret hx hb hr (fun t ht _ => ⟨rfl, by rw [ht]; exact hP, hS.F ht⟩) hS.2.2 dX1_nearest_142
set_option maxHeartbeats 4000000 in
set_option maxRecDepth 100000 in
theorem cm_nearest (l : Launch) (G : va_G) (a : Nat → Nat) (C : Nat → ClassId) {A : Nat → Prop} (hD : ∀ T K D w th, va_D A (wM a C T K D w th)) (T : Nat → Bool) (K D : Nat → Int64) (w : Nat → Int32) (th : Int32) (h : 2 ≤ ft_cnt T 200) : Met l yX1_nearest wsX1_nearest { frames := 1, cells := 0, slots := 0, locals := 30 } (va_Pc [.ref (a 0)] (rM G a C T K D w th)) (wr_Q G vwCl (some (.long (ft_near T K 200))) (wM a C T K D w 0) A) 0 0 A := by
  refine q_open (cc := cX1_nearest) (maxL := 5) (ret := (some .long)) (by decide) rfl (Nat.le_of_ble_eq_true rfl) ?_
  intro p e s m below meth c ls S hr hlk hB hl
  obtain ⟨hx, hb, hml, hown, hts⟩ := id S
  obtain ⟨hP, hK⟩ := hB
  have hin : ∀ w ∈ u_ws RX1 TX1 5, w ∈ wsX1_nearest := fun w h => tb_cons w (hinX1 w h)
  have hS : va_S A s.heap s.heap [] := va_S.rf
  have hl : lv_has ls 5 [(0, .ref (a 0))] := hl
  refine lv_aload_n hx hb dX1_nearest_0 rfl (lv_at hl 0 rfl) ?_
  refine lv_aload_n hx hb dX1_nearest_1 rfl (lv_at hl 0 rfl) ?_
  refine rd_call (W.runV (As := []) (rest := [.ref (a 0)]) S (cm_many l G a C T K D w th) (cwV 0 hts (gX1_32 tb_cons) rfl rfl rfl (by decide +kernel) ⟨Nat.le_of_ble_eq_true rfl, Nat.le_of_ble_eq_true rfl⟩) (pM_V hP hK) rfl rfl hl.1 rfl (lv_room (Nat.le_of_ble_eq_true rfl)) dX1_nearest_2 ⟨Nat.zero_le _, Nat.zero_le _⟩) ?_
  refine lv_iconst (v := 2) hx hb dX1_nearest_5 (by decide) ?_
  have hc9 := ft_cnt_le T 200
  refine lv_icmp_ge (tgt := 13) hx hb dX1_nearest_6 (by decide) (fun _ => ?_) (fun hc => absurd (nI_le (a := 2) h (by omega)) hc)
  refine lv_iconst (v := 0) hx hb dX1_nearest_13 (by decide) ?_
  refine va_put (D := G) (ci := 1) (v := .int 0) (ty := .int) (C := RX1) (T := TX1) (N := 5) hx hb hts hin tyX1 tyX1_ok nmX1 hown hK hP (hD _ _ _ _ _) hS 0 rfl rfl 4 (by decide) (hts _ (tb_cons _ w_fl_X1_24)) (fun _ h9 => h9) rfl (by decide +kernel) rfl rfl (Nat.le_of_ble_eq_true rfl) dX1_nearest_14 (fun H locs hP _ hS => ?_)
  have hP : va_P G vwCl (wM a C T K D w 0) H := hP
  refine lv_ldc2 (v := 9223372036854775807) hx hb hown (hts _ (tb_cons _ w_k_X1_42)) dX1_nearest_17 ?_
  refine q_topl (y := (ft_near T K 0)) rfl ?_
  refine lv_lstore_n hx hb dX1_nearest_20 rfl hl (by decide) rfl (fun ls hl => ?_)
  have hl : lv_has ls 5 [(1, .long (ft_near T K 0)), (0, .ref (a 0))] := hl
  refine lv_iconst (v := 0) hx hb dX1_nearest_21 (by decide) ?_
  refine lv_istore_n hx hb dX1_nearest_22 rfl hl (by decide) rfl (fun ls hl => ?_)
  have hl : lv_has ls 5 [(3, .int 0), (1, .long (ft_near T K 0)), (0, .ref (a 0))] := hl
  have loop : ∀ (k : Nat) (i : Nat), i + k = 200 → ∀ (H : Heap) (locs : List Loc), va_P G vwCl (wM a C T K D w 0) H → va_S A s.heap H locs → ∀ ls : Array Slot, lv_has ls 5 [(3, .int (nI i)), (1, .long (ft_near T K i)), (0, .ref (a 0))] → W p l e { frames := 1, cells := 0, slots := 0, locals := 30 } s m ([.ref (a 0)] : List Value).toArray below meth c H locs 0 0 (MQ below (wr_Q G vwCl (some (.long (ft_near T K 200))) (wM a C T K D w 0) A) ([.ref (a 0)] : List Value).toArray s 0 0 A) (F0 m 23 ls []) := by
    intro k
    induction k with
    | zero =>
      intro i hi H locs hP hS ls hl
      refine lv_iload_n hx hb dX1_nearest_23 rfl (lv_at hl 0 rfl) ?_
      refine lv_sipush (v := 200) hx hb dX1_nearest_24 (by decide) ?_
      refine lv_icmp_ge (tgt := 130) hx hb dX1_nearest_27 (by decide) (fun _ => ?_) (fun hc => absurd (nI_le (a := 200) (by omega) (by omega)) hc)
      refine lv_aload_n hx hb dX1_nearest_130 rfl (lv_at hl 2 rfl) ?_
      refine va_get (D := G) (ci := 1) (C := RX1) (T := TX1) (N := 5) hx hb hts hin hown hK hP 0 rfl rfl 4 (by decide) (hts _ (tb_cons _ w_fl_X1_24)) (fun _ h9 => h9) rfl dX1_nearest_131 ?_
      refine lv_if_le (tgt := 141) hx hb dX1_nearest_134 (by decide) (fun _ => ?_) (fun hc => absurd (by decide) hc)
      refine lv_lload_n hx hb dX1_nearest_141 rfl (lv_at hl 1 rfl) ?_
      have hi : i = 200 := hi
      exact W.lret hx hb hr (fun t ht _ => ⟨by rw [hi], by rw [ht]; exact hP, hS.F ht⟩) hS.2.2 dX1_nearest_142
    | succ k ih =>
      intro i hi H locs hP hS ls hl
      refine lv_iload_n hx hb dX1_nearest_23 rfl (lv_at hl 0 rfl) ?_
      refine lv_sipush (v := 200) hx hb dX1_nearest_24 (by decide) ?_
      refine lv_icmp_ge (tgt := 130) hx hb dX1_nearest_27 (by decide) (fun hc => absurd hc (nI_ge (b := 200) (by omega) (by decide))) (fun _ => ?_)
      refine lv_aload_n hx hb dX1_nearest_30 rfl (lv_at hl 2 rfl) ?_
      refine va_get (D := G) (ci := 1) (C := RX1) (T := TX1) (N := 5) hx hb hts hin hown hK hP 0 rfl rfl 4 (by decide) (hts _ (tb_cons _ w_fl_X1_24)) (fun _ h9 => h9) rfl dX1_nearest_31 ?_
      refine lv_if_ne (tgt := 130) hx hb dX1_nearest_34 (by decide) (fun hc => absurd (rfl) hc) (fun _ => ?_)
      refine lv_iconst (v := 0) hx hb dX1_nearest_37 (by decide) ?_
      refine lv_istore hx hb dX1_nearest_38 hl (by decide) rfl (fun ls hl => ?_)
      have hl : lv_has ls 5 [(4, .int 0), (3, .int (nI i)), (1, .long (ft_near T K i)), (0, .ref (a 0))] := hl
      by_cases hT : T i = true
      · have inner : ∀ (k2 b : Nat), b + k2 = i → ∀ ls : Array Slot, lv_has ls 5 [(4, .int (nI b)), (1, .long (ft_gf (fun b acc2 => if T b = true then ft_min acc2 (ft_dist K i b) else acc2) (ft_near T K i) b)), (3, .int (nI i)), (0, .ref (a 0))] → W p l e { frames := 1, cells := 0, slots := 0, locals := 30 } s m ([.ref (a 0)] : List Value).toArray below meth c H locs 0 0 (MQ below (wr_Q G vwCl (some (.long (ft_near T K 200))) (wM a C T K D w 0) A) ([.ref (a 0)] : List Value).toArray s 0 0 A) (F0 m 40 ls []) := by
          intro k2
          induction k2 with
          | zero =>
            intro b hb2 ls hl
            refine lv_iload hx hb dX1_nearest_40 (lv_at hl 0 rfl) ?_
            refine lv_iload_n hx hb dX1_nearest_42 rfl (lv_at hl 2 rfl) ?_
            refine lv_icmp_ge (tgt := 124) hx hb dX1_nearest_43 (by decide) (fun _ => ?_) (fun hc => absurd (nI_le (by omega) (by omega)) hc)
            have hb2 : b = i := hb2
            refine lv_iinc (k := 2) (v := nI (i + 1)) hx hb dX1_nearest_124 hl rfl (nI_succ i).symm (by decide) rfl (fun ls hl => ?_)
            have hl : lv_has ls 5 [(3, .int (nI (i + 1))), (4, .int (nI b)), (1, .long (ft_gf (fun b acc2 => if T b = true then ft_min acc2 (ft_dist K i b) else acc2) (ft_near T K i) b)), (0, .ref (a 0))] := hl
            refine lv_goto (tgt := 23) hx hb dX1_nearest_127 (by decide) ?_
            exact ih (i + 1) (by omega) H locs hP hS ls (by have e9 : ft_near T K (i + 1) = (ft_gf (fun b acc2 => if T b = true then ft_min acc2 (ft_dist K i b) else acc2) (ft_near T K i) i) := (if_pos hT); rw [e9]; rw [hb2] at hl; exact lv_sub hl [0, 2, 3] rfl)
          | succ k2 ih2 =>
            intro b hb2 ls hl
            refine lv_iload hx hb dX1_nearest_40 (lv_at hl 0 rfl) ?_
            refine lv_iload_n hx hb dX1_nearest_42 rfl (lv_at hl 2 rfl) ?_
            refine lv_icmp_ge (tgt := 124) hx hb dX1_nearest_43 (by decide) (fun hc => absurd hc (nI_ge (by omega) (by omega))) (fun _ => ?_)
            refine lv_aload_n hx hb dX1_nearest_46 rfl (lv_at hl 3 rfl) ?_
            refine va_get (D := G) (ci := 1) (C := RX1) (T := TX1) (N := 5) hx hb hts hin hown hK hP 0 rfl rfl 0 (by decide) (hts _ (tb_cons _ w_fl_X1_9)) (fun _ h9 => h9) rfl dX1_nearest_47 ?_
            refine lv_iload_n hx hb dX1_nearest_50 rfl (lv_at hl 2 rfl) ?_
            refine q_zald hx hb hK hP 1 0 rfl rfl (i) rfl (by omega) (by decide) dX1_nearest_51 ?_
            refine q_topi (y := 1) (ft_tb_t hT) ?_
            refine lv_if_eq (tgt := 124) hx hb dX1_nearest_52 (by decide) (fun hc => absurd hc (by decide)) (fun _ => ?_)
            refine lv_aload_n hx hb dX1_nearest_55 rfl (lv_at hl 3 rfl) ?_
            refine va_get (D := G) (ci := 1) (C := RX1) (T := TX1) (N := 5) hx hb hts hin hown hK hP 0 rfl rfl 0 (by decide) (hts _ (tb_cons _ w_fl_X1_9)) (fun _ h9 => h9) rfl dX1_nearest_56 ?_
            refine lv_iload hx hb dX1_nearest_59 (lv_at hl 0 rfl) ?_
            refine q_zald hx hb hK hP 1 0 rfl rfl (b) rfl (by omega) (by decide) dX1_nearest_61 ?_
            by_cases hT2 : T b = true
            · refine q_topi (y := 1) (ft_tb_t hT2) ?_
              refine lv_if_eq (tgt := 118) hx hb dX1_nearest_62 (by decide) (fun hc => absurd hc (by decide)) (fun _ => ?_)
              refine lv_lload_n hx hb dX1_nearest_65 rfl (lv_at hl 1 rfl) ?_
              refine lv_aload_n hx hb dX1_nearest_66 rfl (lv_at hl 3 rfl) ?_
              refine va_get (D := G) (ci := 1) (C := RX1) (T := TX1) (N := 5) hx hb hts hin hown hK hP 0 rfl rfl 1 (by decide) (hts _ (tb_cons _ w_fl_X1_13)) (fun _ h9 => h9) rfl dX1_nearest_67 ?_
              refine lv_iload_n hx hb dX1_nearest_70 rfl (lv_at hl 2 rfl) ?_
              refine q_lald hx hb hK hP 2 1 rfl rfl (i) rfl (by omega) (by decide) dX1_nearest_71 ?_
              refine lv_aload_n hx hb dX1_nearest_72 rfl (lv_at hl 3 rfl) ?_
              refine va_get (D := G) (ci := 1) (C := RX1) (T := TX1) (N := 5) hx hb hts hin hown hK hP 0 rfl rfl 1 (by decide) (hts _ (tb_cons _ w_fl_X1_13)) (fun _ h9 => h9) rfl dX1_nearest_73 ?_
              refine lv_iload hx hb dX1_nearest_76 (lv_at hl 0 rfl) ?_
              refine q_lald hx hb hK hP 2 1 rfl rfl (b) rfl (by omega) (by decide) dX1_nearest_78 ?_
              refine W.lcmp hx hb dX1_nearest_79 ?_
              refine lv_if_ge (tgt := 100) hx hb dX1_nearest_80 (by decide) (fun hq => ?_) (fun hq => ?_)
              · refine lv_aload_n hx hb dX1_nearest_100 rfl (lv_at hl 3 rfl) ?_
                refine va_get (D := G) (ci := 1) (C := RX1) (T := TX1) (N := 5) hx hb hts hin hown hK hP 0 rfl rfl 1 (by decide) (hts _ (tb_cons _ w_fl_X1_13)) (fun _ h9 => h9) rfl dX1_nearest_101 ?_
                refine lv_iload_n hx hb dX1_nearest_104 rfl (lv_at hl 2 rfl) ?_
                refine q_lald hx hb hK hP 2 1 rfl rfl (i) rfl (by omega) (by decide) dX1_nearest_105 ?_
                refine lv_aload_n hx hb dX1_nearest_106 rfl (lv_at hl 3 rfl) ?_
                refine va_get (D := G) (ci := 1) (C := RX1) (T := TX1) (N := 5) hx hb hts hin hown hK hP 0 rfl rfl 1 (by decide) (hts _ (tb_cons _ w_fl_X1_13)) (fun _ h9 => h9) rfl dX1_nearest_107 ?_
                refine lv_iload hx hb dX1_nearest_110 (lv_at hl 0 rfl) ?_
                refine q_lald hx hb hK hP 2 1 rfl rfl (b) rfl (by omega) (by decide) dX1_nearest_112 ?_
                refine lv_lsub hx hb dX1_nearest_113 ?_
                refine q_topl (y := ft_dist K i b) (if_neg (Int64.not_lt.mpr ((lg_cmp_ge _ _).mp hq))).symm ?_
                refine va_mmin_long hx hb (hml.trans hl.1.symm) hown (hts _ (tb_cons _ w_ml_X1_56)) (hts _ (tb_cons _ w_st_min)) (hts _ (tb_cons _ w_in_Math)) (hts _ (tb_cons _ w_co_min)) (Nat.le_of_ble_eq_true rfl) (Nat.le_of_ble_eq_true rfl) (Nat.zero_le _) (Nat.zero_le _) dX1_nearest_114 ?_
                refine q_topl (y := (ft_gf (fun b acc2 => if T b = true then ft_min acc2 (ft_dist K i b) else acc2) (ft_near T K i) (b + 1))) (ft_gf_t (P := T) (g := fun b acc2 => ft_min acc2 (ft_dist K i b)) hT2) ?_
                refine lv_lstore_n hx hb dX1_nearest_117 rfl hl (by decide) rfl (fun ls hl => ?_)
                have hl : lv_has ls 5 [(1, .long (ft_gf (fun b acc2 => if T b = true then ft_min acc2 (ft_dist K i b) else acc2) (ft_near T K i) (b + 1))), (4, .int (nI b)), (3, .int (nI i)), (0, .ref (a 0))] := hl
                refine lv_iinc (k := 1) (v := nI (b + 1)) hx hb dX1_nearest_118 hl rfl (nI_succ b).symm (by decide) rfl (fun ls hl => ?_)
                have hl : lv_has ls 5 [(4, .int (nI (b + 1))), (1, .long (ft_gf (fun b acc2 => if T b = true then ft_min acc2 (ft_dist K i b) else acc2) (ft_near T K i) (b + 1))), (3, .int (nI i)), (0, .ref (a 0))] := hl
                refine lv_goto (tgt := 40) hx hb dX1_nearest_121 (by decide) ?_
                exact ih2 (b + 1) (by omega) ls hl
              · refine lv_aload_n hx hb dX1_nearest_83 rfl (lv_at hl 3 rfl) ?_
                refine va_get (D := G) (ci := 1) (C := RX1) (T := TX1) (N := 5) hx hb hts hin hown hK hP 0 rfl rfl 1 (by decide) (hts _ (tb_cons _ w_fl_X1_13)) (fun _ h9 => h9) rfl dX1_nearest_84 ?_
                refine lv_iload hx hb dX1_nearest_87 (lv_at hl 0 rfl) ?_
                refine q_lald hx hb hK hP 2 1 rfl rfl (b) rfl (by omega) (by decide) dX1_nearest_89 ?_
                refine lv_aload_n hx hb dX1_nearest_90 rfl (lv_at hl 3 rfl) ?_
                refine va_get (D := G) (ci := 1) (C := RX1) (T := TX1) (N := 5) hx hb hts hin hown hK hP 0 rfl rfl 1 (by decide) (hts _ (tb_cons _ w_fl_X1_13)) (fun _ h9 => h9) rfl dX1_nearest_91 ?_
                refine lv_iload_n hx hb dX1_nearest_94 rfl (lv_at hl 2 rfl) ?_
                refine q_lald hx hb hK hP 2 1 rfl rfl (i) rfl (by omega) (by decide) dX1_nearest_95 ?_
                refine lv_lsub hx hb dX1_nearest_96 ?_
                refine lv_goto (tgt := 114) hx hb dX1_nearest_97 (by decide) ?_
                refine q_topl (y := ft_dist K i b) (if_pos (Int64.not_le.mp (fun z => hq ((lg_cmp_ge _ _).mpr z)))).symm ?_
                refine va_mmin_long hx hb (hml.trans hl.1.symm) hown (hts _ (tb_cons _ w_ml_X1_56)) (hts _ (tb_cons _ w_st_min)) (hts _ (tb_cons _ w_in_Math)) (hts _ (tb_cons _ w_co_min)) (Nat.le_of_ble_eq_true rfl) (Nat.le_of_ble_eq_true rfl) (Nat.zero_le _) (Nat.zero_le _) dX1_nearest_114 ?_
                refine q_topl (y := (ft_gf (fun b acc2 => if T b = true then ft_min acc2 (ft_dist K i b) else acc2) (ft_near T K i) (b + 1))) (ft_gf_t (P := T) (g := fun b acc2 => ft_min acc2 (ft_dist K i b)) hT2) ?_
                refine lv_lstore_n hx hb dX1_nearest_117 rfl hl (by decide) rfl (fun ls hl => ?_)
                have hl : lv_has ls 5 [(1, .long (ft_gf (fun b acc2 => if T b = true then ft_min acc2 (ft_dist K i b) else acc2) (ft_near T K i) (b + 1))), (4, .int (nI b)), (3, .int (nI i)), (0, .ref (a 0))] := hl
                refine lv_iinc (k := 1) (v := nI (b + 1)) hx hb dX1_nearest_118 hl rfl (nI_succ b).symm (by decide) rfl (fun ls hl => ?_)
                have hl : lv_has ls 5 [(4, .int (nI (b + 1))), (1, .long (ft_gf (fun b acc2 => if T b = true then ft_min acc2 (ft_dist K i b) else acc2) (ft_near T K i) (b + 1))), (3, .int (nI i)), (0, .ref (a 0))] := hl
                refine lv_goto (tgt := 40) hx hb dX1_nearest_121 (by decide) ?_
                exact ih2 (b + 1) (by omega) ls hl
            · refine q_topi (y := 0) (ft_tb_f hT2) ?_
              refine lv_if_eq (tgt := 118) hx hb dX1_nearest_62 (by decide) (fun _ => ?_) (fun hc => absurd (rfl) hc)
              refine lv_iinc (k := 0) (v := nI (b + 1)) hx hb dX1_nearest_118 hl rfl (nI_succ b).symm (by decide) rfl (fun ls hl => ?_)
              have hl : lv_has ls 5 [(4, .int (nI (b + 1))), (1, .long (ft_gf (fun b acc2 => if T b = true then ft_min acc2 (ft_dist K i b) else acc2) (ft_near T K i) b)), (3, .int (nI i)), (0, .ref (a 0))] := hl
              refine lv_goto (tgt := 40) hx hb dX1_nearest_121 (by decide) ?_
              exact ih2 (b + 1) (by omega) ls (by rw [ft_gf_f (P := T) (g := fun b acc2 => ft_min acc2 (ft_dist K i b)) hT2]; exact lv_sub hl [0, 1, 2, 3] rfl)
        exact inner i 0 (by omega) ls (lv_sub hl [0, 2, 1, 3] rfl)
      · have e9 : ft_near T K (i + 1) = ft_near T K i := (if_neg hT)
        by_cases hi0 : i = 0
        · refine lv_iload hx hb dX1_nearest_40 (lv_at hl 0 rfl) ?_
          refine lv_iload_n hx hb dX1_nearest_42 rfl (lv_at hl 1 rfl) ?_
          refine lv_icmp_ge (tgt := 124) hx hb dX1_nearest_43 (by decide) (fun _ => ?_) (fun hc => absurd (nI_le (b := 0) (by omega) (by decide)) hc)
          refine lv_iinc (k := 1) (v := nI (i + 1)) hx hb dX1_nearest_124 hl rfl (nI_succ i).symm (by decide) rfl (fun ls hl => ?_)
          have hl : lv_has ls 5 [(3, .int (nI (i + 1))), (4, .int 0), (1, .long (ft_near T K i)), (0, .ref (a 0))] := hl
          refine lv_goto (tgt := 23) hx hb dX1_nearest_127 (by decide) ?_
          exact ih (i + 1) (by omega) H locs hP hS ls (by rw [e9]; exact lv_sub hl [0, 2, 3] rfl)
        · refine lv_iload hx hb dX1_nearest_40 (lv_at hl 0 rfl) ?_
          refine lv_iload_n hx hb dX1_nearest_42 rfl (lv_at hl 1 rfl) ?_
          refine lv_icmp_ge (tgt := 124) hx hb dX1_nearest_43 (by decide) (fun hc => absurd hc (nI_ge (a := 0) (by omega) (by omega))) (fun _ => ?_)
          refine lv_aload_n hx hb dX1_nearest_46 rfl (lv_at hl 3 rfl) ?_
          refine va_get (D := G) (ci := 1) (C := RX1) (T := TX1) (N := 5) hx hb hts hin hown hK hP 0 rfl rfl 0 (by decide) (hts _ (tb_cons _ w_fl_X1_9)) (fun _ h9 => h9) rfl dX1_nearest_47 ?_
          refine lv_iload_n hx hb dX1_nearest_50 rfl (lv_at hl 1 rfl) ?_
          refine q_zald hx hb hK hP 1 0 rfl rfl (i) rfl (by omega) (by decide) dX1_nearest_51 ?_
          refine q_topi (y := 0) (ft_tb_f hT) ?_
          refine lv_if_eq (tgt := 124) hx hb dX1_nearest_52 (by decide) (fun _ => ?_) (fun hc => absurd (rfl) hc)
          refine lv_iinc (k := 1) (v := nI (i + 1)) hx hb dX1_nearest_124 hl rfl (nI_succ i).symm (by decide) rfl (fun ls hl => ?_)
          have hl : lv_has ls 5 [(3, .int (nI (i + 1))), (4, .int 0), (1, .long (ft_near T K i)), (0, .ref (a 0))] := hl
          refine lv_goto (tgt := 23) hx hb dX1_nearest_127 (by decide) ?_
          exact ih (i + 1) (by omega) H locs hP hS ls (by rw [e9]; exact lv_sub hl [0, 2, 3] rfl)
  exact loop 200 0 (by omega) H locs hP hS ls hl
set_option maxHeartbeats 4000000 in
set_option maxRecDepth 100000 in
theorem cm_slide_none (l : Launch) (G : va_G) (a : Nat → Nat) (C : Nat → ClassId) {A : Nat → Prop} (hD : ∀ T K D w th, va_D A (wM a C T K D w th)) (T : Nat → Bool) (K D : Nat → Int64) (w : Nat → Int32) (th : Int32) {y : Int64} (h : ft_cnt T 200 = 0) : Met l yX1_slide wsX1_slide { frames := 1, cells := 0, slots := 0, locals := 30 } (va_Pc [.ref (a 0), .long y] (rM G a C T K D w th)) (wr_Q G vwCl (some (.long 0)) (wM a C T K D w 1) A) 0 0 A := by
  refine q_open (cc := cX1_slide) (maxL := 6) (ret := (some .long)) (by decide) rfl (Nat.le_of_ble_eq_true rfl) ?_
  intro p e s m below meth c ls S hr hlk hB hl
  obtain ⟨hx, hb, hml, hown, hts⟩ := id S
  obtain ⟨hP, hK⟩ := hB
  have hin : ∀ w ∈ u_ws RX1 TX1 5, w ∈ wsX1_slide := fun w h => tb_cons w (hinX1 w h)
  have hS : va_S A s.heap s.heap [] := va_S.rf
  have hl : lv_has ls 6 [(0, .ref (a 0)), (1, .long y)] := hl
  refine lv_aload_n hx hb dX1_slide_0 rfl (lv_at hl 0 rfl) ?_
  refine lv_aload_n hx hb dX1_slide_1 rfl (lv_at hl 0 rfl) ?_
  refine rd_call (W.runV (As := []) (rest := [.ref (a 0)]) S (cm_many l G a C T K D w th) (cwV 0 hts (gX1_32 tb_cons) rfl rfl rfl (by decide +kernel) ⟨Nat.le_of_ble_eq_true rfl, Nat.le_of_ble_eq_true rfl⟩) (pM_V hP hK) rfl rfl hl.1 rfl (lv_room (Nat.le_of_ble_eq_true rfl)) dX1_slide_2 ⟨Nat.zero_le _, Nat.zero_le _⟩) ?_
  refine q_topi (y := 0) (by rw [h]; rfl) ?_
  refine lv_if_ne (tgt := 12) hx hb dX1_slide_5 (by decide) (fun hc => absurd (rfl) hc) (fun _ => ?_)
  refine lv_iconst (v := 1) hx hb dX1_slide_8 (by decide) ?_
  refine lv_goto (tgt := 13) hx hb dX1_slide_9 (by decide) ?_
  refine va_put (D := G) (ci := 1) (v := .int 1) (ty := .int) (C := RX1) (T := TX1) (N := 5) hx hb hts hin tyX1 tyX1_ok nmX1 hown hK hP (hD _ _ _ _ _) hS 0 rfl rfl 4 (by decide) (hts _ (tb_cons _ w_fl_X1_24)) (fun _ h9 => h9) rfl (by decide +kernel) rfl rfl (Nat.le_of_ble_eq_true rfl) dX1_slide_13 (fun H locs hP _ hS => ?_)
  have hP : va_P G vwCl (wM a C T K D w 1) H := hP
  refine lv_aload_n hx hb dX1_slide_16 rfl (lv_at hl 0 rfl) ?_
  refine va_get (D := G) (ci := 1) (C := RX1) (T := TX1) (N := 5) hx hb hts hin hown hK hP 0 rfl rfl 4 (by decide) (hts _ (tb_cons _ w_fl_X1_24)) (fun _ h9 => h9) rfl dX1_slide_17 ?_
  refine lv_if_le (tgt := 25) hx hb dX1_slide_20 (by decide) (fun hc => absurd hc (by decide)) (fun _ => ?_)
  refine lv_lconst (v := 0) hx hb dX1_slide_23 (by decide) ?_
  exact W.lret hx hb hr (fun t ht _ => ⟨rfl, by rw [ht]; exact hP, hS.F ht⟩) hS.2.2 dX1_slide_24
set_option maxHeartbeats 4000000 in
set_option maxRecDepth 100000 in
theorem cm_slide_bad (l : Launch) (G : va_G) (a : Nat → Nat) (C : Nat → ClassId) {A : Nat → Prop} (hD : ∀ T K D w th, va_D A (wM a C T K D w th)) (T : Nat → Bool) (K D : Nat → Int64) (w : Nat → Int32) (th : Int32) {y : Int64} (h0 : 0 < ft_cnt T 200) (h1 : (ft_fb (ft_slP T K y) 200 0) < 200) : Met l yX1_slide wsX1_slide { frames := 1, cells := 0, slots := 0, locals := 30 } (va_Pc [.ref (a 0), .long y] (rM G a C T K D w th)) (wr_Q G vwCl (some (.long 0)) (wM a C T K D w 2) A) 0 0 A := by
  refine q_open (cc := cX1_slide) (maxL := 6) (ret := (some .long)) (by decide) rfl (Nat.le_of_ble_eq_true rfl) ?_
  intro p e s m below meth c ls S hr hlk hB hl
  obtain ⟨hx, hb, hml, hown, hts⟩ := id S
  obtain ⟨hP, hK⟩ := hB
  have hin : ∀ w ∈ u_ws RX1 TX1 5, w ∈ wsX1_slide := fun w h => tb_cons w (hinX1 w h)
  have hS : va_S A s.heap s.heap [] := va_S.rf
  have hl : lv_has ls 6 [(0, .ref (a 0)), (1, .long y)] := hl
  refine lv_aload_n hx hb dX1_slide_0 rfl (lv_at hl 0 rfl) ?_
  refine lv_aload_n hx hb dX1_slide_1 rfl (lv_at hl 0 rfl) ?_
  refine rd_call (W.runV (As := []) (rest := [.ref (a 0)]) S (cm_many l G a C T K D w th) (cwV 0 hts (gX1_32 tb_cons) rfl rfl rfl (by decide +kernel) ⟨Nat.le_of_ble_eq_true rfl, Nat.le_of_ble_eq_true rfl⟩) (pM_V hP hK) rfl rfl hl.1 rfl (lv_room (Nat.le_of_ble_eq_true rfl)) dX1_slide_2 ⟨Nat.zero_le _, Nat.zero_le _⟩) ?_
  have hc9 := ft_cnt_le T 200
  refine lv_if_ne (tgt := 12) hx hb dX1_slide_5 (by decide) (fun _ => ?_) (fun hc => absurd hc (nI_ne0 h0 (by omega)))
  refine lv_iconst (v := 0) hx hb dX1_slide_12 (by decide) ?_
  refine va_put (D := G) (ci := 1) (v := .int 0) (ty := .int) (C := RX1) (T := TX1) (N := 5) hx hb hts hin tyX1 tyX1_ok nmX1 hown hK hP (hD _ _ _ _ _) hS 0 rfl rfl 4 (by decide) (hts _ (tb_cons _ w_fl_X1_24)) (fun _ h9 => h9) rfl (by decide +kernel) rfl rfl (Nat.le_of_ble_eq_true rfl) dX1_slide_13 (fun H locs hP _ hS => ?_)
  have hP : va_P G vwCl (wM a C T K D w 0) H := hP
  refine lv_aload_n hx hb dX1_slide_16 rfl (lv_at hl 0 rfl) ?_
  refine va_get (D := G) (ci := 1) (C := RX1) (T := TX1) (N := 5) hx hb hts hin hown hK hP 0 rfl rfl 4 (by decide) (hts _ (tb_cons _ w_fl_X1_24)) (fun _ h9 => h9) rfl dX1_slide_17 ?_
  refine lv_if_le (tgt := 25) hx hb dX1_slide_20 (by decide) (fun _ => ?_) (fun hc => absurd (by decide) hc)
  refine lv_ldc2 (v := 9223372036854775807) hx hb hown (hts _ (tb_cons _ w_k_X1_42)) dX1_slide_25 ?_
  refine lv_lstore_n hx hb dX1_slide_28 rfl hl (by decide) rfl (fun ls hl => ?_)
  have hl : lv_has ls 6 [(3, .long 9223372036854775807), (0, .ref (a 0)), (1, .long y)] := hl
  refine lv_iconst (v := 0) hx hb dX1_slide_29 (by decide) ?_
  refine lv_istore hx hb dX1_slide_30 hl (by decide) rfl (fun ls hl => ?_)
  have hl : lv_has ls 6 [(5, .int 0), (3, .long 9223372036854775807), (0, .ref (a 0)), (1, .long y)] := hl
  have loop : ∀ (k : Nat) (i : Nat), i + k = 200 → ft_fb (ft_slP T K y) k i = (ft_fb (ft_slP T K y) 200 0) → ∀ (H : Heap) (locs : List Loc), va_P G vwCl (wM a C T K D w 0) H → va_S A s.heap H locs → ∀ ls : Array Slot, lv_has ls 6 [(5, .int (nI i)), (3, .long 9223372036854775807), (0, .ref (a 0)), (1, .long y)] → W p l e { frames := 1, cells := 0, slots := 0, locals := 30 } s m ([.ref (a 0), .long y] : List Value).toArray below meth c H locs 0 0 (MQ below (wr_Q G vwCl (some (.long 0)) (wM a C T K D w 2) A) ([.ref (a 0), .long y] : List Value).toArray s 0 0 A) (F0 m 32 ls []) := by
    intro k
    induction k with
    | zero =>
      intro i hi hf H locs hP hS ls hl
      have hf : i = (ft_fb (ft_slP T K y) 200 0) := hf
      omega
    | succ k ih =>
      intro i hi hf H locs hP hS ls hl
      refine lv_iload hx hb dX1_slide_32 (lv_at hl 0 rfl) ?_
      refine lv_sipush (v := 200) hx hb dX1_slide_34 (by decide) ?_
      refine lv_icmp_ge (tgt := 114) hx hb dX1_slide_37 (by decide) (fun hc => absurd hc (nI_ge (b := 200) (by omega) (by decide))) (fun _ => ?_)
      refine lv_aload_n hx hb dX1_slide_40 rfl (lv_at hl 2 rfl) ?_
      refine va_get (D := G) (ci := 1) (C := RX1) (T := TX1) (N := 5) hx hb hts hin hown hK hP 0 rfl rfl 0 (by decide) (hts _ (tb_cons _ w_fl_X1_9)) (fun _ h9 => h9) rfl dX1_slide_41 ?_
      refine lv_iload hx hb dX1_slide_44 (lv_at hl 0 rfl) ?_
      refine q_zald hx hb hK hP 1 0 rfl rfl (i) rfl (by omega) (by decide) dX1_slide_46 ?_
      have hf : (if ft_slP T K y i = true then ft_fb (ft_slP T K y) k (i + 1) else i) = (ft_fb (ft_slP T K y) 200 0) := hf
      by_cases hT : T i = true
      · refine q_topi (y := 1) (ft_tb_t hT) ?_
        refine lv_if_ne (tgt := 53) hx hb dX1_slide_47 (by decide) (fun _ => ?_) (fun hc => absurd hc (by decide))
        refine lv_lload_n hx hb dX1_slide_53 rfl (lv_at hl 3 rfl) ?_
        refine lv_ldc2 (v := 8796093022208) hx hb hown (hts _ (tb_cons _ w_k_X1_44)) dX1_slide_54 ?_
        refine W.lcmp hx hb dX1_slide_57 ?_
        refine lv_if_gt (tgt := 101) hx hb dX1_slide_58 (by decide) (fun c1 => ?_) (fun c1 => ?_)
        · refine lv_aload_n hx hb dX1_slide_101 rfl (lv_at hl 2 rfl) ?_
          refine lv_iconst (v := 2) hx hb dX1_slide_102 (by decide) ?_
          refine wr_call (W.runV (As := [.int 2]) (rest := []) S (cm_fail l G a C hD T K D w 0) (cwV 1 hts (gX1_52 tb_cons) rfl rfl rfl (by decide +kernel) ⟨Nat.le_of_ble_eq_true rfl, Nat.le_of_ble_eq_true rfl⟩) (pM_V hP hK) rfl rfl hl.1 rfl (lv_room (Nat.le_of_ble_eq_true rfl)) dX1_slide_103 ⟨Nat.zero_le _, Nat.zero_le _⟩) hS (fun _ h => h) (fun H locs hP hS _ _ => ?_)
          have hP : va_P G vwCl (wM a C T K D w 2) H := hP
          refine W.eq (g2 := F0 m 106 ls [.int 0]) rfl ?_
          refine lv_i2l hx hb dX1_slide_106 rfl ?_
          exact W.lret hx hb hr (fun t ht _ => ⟨rfl, by rw [ht]; exact hP, hS.F ht⟩) hS.2.2 dX1_slide_107
        · refine lv_lload_n hx hb dX1_slide_61 rfl (lv_at hl 3 rfl) ?_
          refine lv_ldc2 (v := (-8796093022208)) hx hb hown (hts _ (tb_cons _ w_k_X1_46)) dX1_slide_62 ?_
          refine W.lcmp hx hb dX1_slide_65 ?_
          refine lv_if_lt (tgt := 101) hx hb dX1_slide_66 (by decide) (fun c2 => ?_) (fun c2 => ?_)
          · refine lv_aload_n hx hb dX1_slide_101 rfl (lv_at hl 2 rfl) ?_
            refine lv_iconst (v := 2) hx hb dX1_slide_102 (by decide) ?_
            refine wr_call (W.runV (As := [.int 2]) (rest := []) S (cm_fail l G a C hD T K D w 0) (cwV 1 hts (gX1_52 tb_cons) rfl rfl rfl (by decide +kernel) ⟨Nat.le_of_ble_eq_true rfl, Nat.le_of_ble_eq_true rfl⟩) (pM_V hP hK) rfl rfl hl.1 rfl (lv_room (Nat.le_of_ble_eq_true rfl)) dX1_slide_103 ⟨Nat.zero_le _, Nat.zero_le _⟩) hS (fun _ h => h) (fun H locs hP hS _ _ => ?_)
            have hP : va_P G vwCl (wM a C T K D w 2) H := hP
            refine W.eq (g2 := F0 m 106 ls [.int 0]) rfl ?_
            refine lv_i2l hx hb dX1_slide_106 rfl ?_
            exact W.lret hx hb hr (fun t ht _ => ⟨rfl, by rw [ht]; exact hP, hS.F ht⟩) hS.2.2 dX1_slide_107
          · refine lv_aload_n hx hb dX1_slide_69 rfl (lv_at hl 2 rfl) ?_
            refine va_get (D := G) (ci := 1) (C := RX1) (T := TX1) (N := 5) hx hb hts hin hown hK hP 0 rfl rfl 1 (by decide) (hts _ (tb_cons _ w_fl_X1_13)) (fun _ h9 => h9) rfl dX1_slide_70 ?_
            refine lv_iload hx hb dX1_slide_73 (lv_at hl 0 rfl) ?_
            refine q_lald hx hb hK hP 2 1 rfl rfl (i) rfl (by omega) (by decide) dX1_slide_75 ?_
            refine lv_lload_n hx hb dX1_slide_76 rfl (lv_at hl 3 rfl) ?_
            refine lv_ladd hx hb dX1_slide_77 ?_
            refine lv_ldc2 (v := (-2199023255552)) hx hb hown (hts _ (tb_cons _ w_k_X1_48)) dX1_slide_78 ?_
            refine W.lcmp hx hb dX1_slide_81 ?_
            refine lv_if_lt (tgt := 101) hx hb dX1_slide_82 (by decide) (fun c3 => ?_) (fun c3 => ?_)
            · refine lv_aload_n hx hb dX1_slide_101 rfl (lv_at hl 2 rfl) ?_
              refine lv_iconst (v := 2) hx hb dX1_slide_102 (by decide) ?_
              refine wr_call (W.runV (As := [.int 2]) (rest := []) S (cm_fail l G a C hD T K D w 0) (cwV 1 hts (gX1_52 tb_cons) rfl rfl rfl (by decide +kernel) ⟨Nat.le_of_ble_eq_true rfl, Nat.le_of_ble_eq_true rfl⟩) (pM_V hP hK) rfl rfl hl.1 rfl (lv_room (Nat.le_of_ble_eq_true rfl)) dX1_slide_103 ⟨Nat.zero_le _, Nat.zero_le _⟩) hS (fun _ h => h) (fun H locs hP hS _ _ => ?_)
              have hP : va_P G vwCl (wM a C T K D w 2) H := hP
              refine W.eq (g2 := F0 m 106 ls [.int 0]) rfl ?_
              refine lv_i2l hx hb dX1_slide_106 rfl ?_
              exact W.lret hx hb hr (fun t ht _ => ⟨rfl, by rw [ht]; exact hP, hS.F ht⟩) hS.2.2 dX1_slide_107
            · refine lv_aload_n hx hb dX1_slide_85 rfl (lv_at hl 2 rfl) ?_
              refine va_get (D := G) (ci := 1) (C := RX1) (T := TX1) (N := 5) hx hb hts hin hown hK hP 0 rfl rfl 1 (by decide) (hts _ (tb_cons _ w_fl_X1_13)) (fun _ h9 => h9) rfl dX1_slide_86 ?_
              refine lv_iload hx hb dX1_slide_89 (lv_at hl 0 rfl) ?_
              refine q_lald hx hb hK hP 2 1 rfl rfl (i) rfl (by omega) (by decide) dX1_slide_91 ?_
              refine lv_lload_n hx hb dX1_slide_92 rfl (lv_at hl 3 rfl) ?_
              refine lv_ladd hx hb dX1_slide_93 ?_
              refine lv_ldc2 (v := 2199023255552) hx hb hown (hts _ (tb_cons _ w_k_X1_50)) dX1_slide_94 ?_
              refine W.lcmp hx hb dX1_slide_97 ?_
              refine lv_if_le (tgt := 108) hx hb dX1_slide_98 (by decide) (fun c4 => ?_) (fun c4 => ?_)
              · rw [if_pos (ft_slP_of (fun z => c1 ((lg_cmp_gt _ _).mpr z)) (fun z => c2 ((lg_cmp_lt _ _).mpr z)) (fun z => c3 ((lg_cmp_lt _ _).mpr z)) (Int64.not_lt.mpr ((lg_cmp_le _ _).mp c4)))] at hf
                refine lv_iinc (k := 0) (v := nI (i + 1)) hx hb dX1_slide_108 hl rfl (nI_succ i).symm (by decide) rfl (fun ls hl => ?_)
                have hl : lv_has ls 6 [(5, .int (nI (i + 1))), (3, .long 9223372036854775807), (0, .ref (a 0)), (1, .long y)] := hl
                refine lv_goto (tgt := 32) hx hb dX1_slide_111 (by decide) ?_
                exact ih (i + 1) (by omega) hf H locs hP hS ls hl
              · refine lv_aload_n hx hb dX1_slide_101 rfl (lv_at hl 2 rfl) ?_
                refine lv_iconst (v := 2) hx hb dX1_slide_102 (by decide) ?_
                refine wr_call (W.runV (As := [.int 2]) (rest := []) S (cm_fail l G a C hD T K D w 0) (cwV 1 hts (gX1_52 tb_cons) rfl rfl rfl (by decide +kernel) ⟨Nat.le_of_ble_eq_true rfl, Nat.le_of_ble_eq_true rfl⟩) (pM_V hP hK) rfl rfl hl.1 rfl (lv_room (Nat.le_of_ble_eq_true rfl)) dX1_slide_103 ⟨Nat.zero_le _, Nat.zero_le _⟩) hS (fun _ h => h) (fun H locs hP hS _ _ => ?_)
                have hP : va_P G vwCl (wM a C T K D w 2) H := hP
                refine W.eq (g2 := F0 m 106 ls [.int 0]) rfl ?_
                refine lv_i2l hx hb dX1_slide_106 rfl ?_
                exact W.lret hx hb hr (fun t ht _ => ⟨rfl, by rw [ht]; exact hP, hS.F ht⟩) hS.2.2 dX1_slide_107
      · refine q_topi (y := 0) (ft_tb_f hT) ?_
        refine lv_if_ne (tgt := 53) hx hb dX1_slide_47 (by decide) (fun hc => absurd (rfl) hc) (fun _ => ?_)
        refine lv_goto (tgt := 108) hx hb dX1_slide_50 (by decide) ?_
        rw [if_pos (ft_slP_no hT)] at hf
        refine lv_iinc (k := 0) (v := nI (i + 1)) hx hb dX1_slide_108 hl rfl (nI_succ i).symm (by decide) rfl (fun ls hl => ?_)
        have hl : lv_has ls 6 [(5, .int (nI (i + 1))), (3, .long 9223372036854775807), (0, .ref (a 0)), (1, .long y)] := hl
        refine lv_goto (tgt := 32) hx hb dX1_slide_111 (by decide) ?_
        exact ih (i + 1) (by omega) hf H locs hP hS ls hl
  exact loop 200 0 (by omega) rfl H locs hP hS ls hl
set_option maxHeartbeats 4000000 in
set_option maxRecDepth 100000 in
theorem cm_slide (l : Launch) (G : va_G) (a : Nat → Nat) (C : Nat → ClassId) {A : Nat → Prop} (hD : ∀ T K D w th, va_D A (wM a C T K D w th)) (T : Nat → Bool) (K D : Nat → Int64) (w : Nat → Int32) (th : Int32) {y : Int64} (h0 : 0 < ft_cnt T 200) (h1 : (ft_fb (ft_slP T K y) 200 0) = 200) : Met l yX1_slide wsX1_slide { frames := 1, cells := 0, slots := 0, locals := 30 } (va_Pc [.ref (a 0), .long y] (rM G a C T K D w th)) (wr_Q G vwCl (some (.long (ft_gf (fun k acc => if T k = true then ft_min acc (K k + y) else acc) 9223372036854775807 200))) (wM a C T (ft_ks T K y 200) D w 0) A) 0 0 A := by
  refine q_open (cc := cX1_slide) (maxL := 6) (ret := (some .long)) (by decide) rfl (Nat.le_of_ble_eq_true rfl) ?_
  intro p e s m below meth c ls S hr hlk hB hl
  obtain ⟨hx, hb, hml, hown, hts⟩ := id S
  obtain ⟨hP, hK⟩ := hB
  have hin : ∀ w ∈ u_ws RX1 TX1 5, w ∈ wsX1_slide := fun w h => tb_cons w (hinX1 w h)
  have hS : va_S A s.heap s.heap [] := va_S.rf
  have hl : lv_has ls 6 [(0, .ref (a 0)), (1, .long y)] := hl
  refine lv_aload_n hx hb dX1_slide_0 rfl (lv_at hl 0 rfl) ?_
  refine lv_aload_n hx hb dX1_slide_1 rfl (lv_at hl 0 rfl) ?_
  refine rd_call (W.runV (As := []) (rest := [.ref (a 0)]) S (cm_many l G a C T K D w th) (cwV 0 hts (gX1_32 tb_cons) rfl rfl rfl (by decide +kernel) ⟨Nat.le_of_ble_eq_true rfl, Nat.le_of_ble_eq_true rfl⟩) (pM_V hP hK) rfl rfl hl.1 rfl (lv_room (Nat.le_of_ble_eq_true rfl)) dX1_slide_2 ⟨Nat.zero_le _, Nat.zero_le _⟩) ?_
  have hc9 := ft_cnt_le T 200
  refine lv_if_ne (tgt := 12) hx hb dX1_slide_5 (by decide) (fun _ => ?_) (fun hc => absurd hc (nI_ne0 h0 (by omega)))
  refine lv_iconst (v := 0) hx hb dX1_slide_12 (by decide) ?_
  refine va_put (D := G) (ci := 1) (v := .int 0) (ty := .int) (C := RX1) (T := TX1) (N := 5) hx hb hts hin tyX1 tyX1_ok nmX1 hown hK hP (hD _ _ _ _ _) hS 0 rfl rfl 4 (by decide) (hts _ (tb_cons _ w_fl_X1_24)) (fun _ h9 => h9) rfl (by decide +kernel) rfl rfl (Nat.le_of_ble_eq_true rfl) dX1_slide_13 (fun H locs hP _ hS => ?_)
  have hP : va_P G vwCl (wM a C T K D w 0) H := hP
  refine lv_aload_n hx hb dX1_slide_16 rfl (lv_at hl 0 rfl) ?_
  refine va_get (D := G) (ci := 1) (C := RX1) (T := TX1) (N := 5) hx hb hts hin hown hK hP 0 rfl rfl 4 (by decide) (hts _ (tb_cons _ w_fl_X1_24)) (fun _ h9 => h9) rfl dX1_slide_17 ?_
  refine lv_if_le (tgt := 25) hx hb dX1_slide_20 (by decide) (fun _ => ?_) (fun hc => absurd (by decide) hc)
  refine lv_ldc2 (v := 9223372036854775807) hx hb hown (hts _ (tb_cons _ w_k_X1_42)) dX1_slide_25 ?_
  refine lv_lstore_n hx hb dX1_slide_28 rfl hl (by decide) rfl (fun ls hl => ?_)
  have hl : lv_has ls 6 [(3, .long 9223372036854775807), (0, .ref (a 0)), (1, .long y)] := hl
  refine lv_iconst (v := 0) hx hb dX1_slide_29 (by decide) ?_
  refine lv_istore hx hb dX1_slide_30 hl (by decide) rfl (fun ls hl => ?_)
  have hl : lv_has ls 6 [(5, .int 0), (3, .long 9223372036854775807), (0, .ref (a 0)), (1, .long y)] := hl
  have loop2 : ∀ (k : Nat) (i : Nat), i + k = 200 → ∀ (H : Heap) (locs : List Loc), va_P G vwCl (wM a C T (ft_ks T K y i) D w 0) H → va_S A s.heap H locs → ∀ ls : Array Slot, lv_has ls 6 [(5, .int (nI i)), (3, .long (ft_gf (fun k acc => if T k = true then ft_min acc (K k + y) else acc) 9223372036854775807 i)), (0, .ref (a 0)), (1, .long y)] → W p l e { frames := 1, cells := 0, slots := 0, locals := 30 } s m ([.ref (a 0), .long y] : List Value).toArray below meth c H locs 0 0 (MQ below (wr_Q G vwCl (some (.long (ft_gf (fun k acc => if T k = true then ft_min acc (K k + y) else acc) 9223372036854775807 200))) (wM a C T (ft_ks T K y 200) D w 0) A) ([.ref (a 0), .long y] : List Value).toArray s 0 0 A) (F0 m 117 ls []) := by
    intro k
    induction k with
    | zero =>
      intro i hi H locs hP hS ls hl
      refine lv_iload hx hb dX1_slide_117 (lv_at hl 0 rfl) ?_
      refine lv_sipush (v := 200) hx hb dX1_slide_119 (by decide) ?_
      refine lv_icmp_ge (tgt := 167) hx hb dX1_slide_122 (by decide) (fun _ => ?_) (fun hc => absurd (nI_le (a := 200) (by omega) (by omega)) hc)
      refine lv_lload_n hx hb dX1_slide_167 rfl (lv_at hl 1 rfl) ?_
      have hi : i = 200 := hi
      rw [hi] at hP
      exact W.lret hx hb hr (fun t ht _ => ⟨by rw [hi], by rw [ht]; exact hP, hS.F ht⟩) hS.2.2 dX1_slide_168
    | succ k ih =>
      intro i hi H locs hP hS ls hl
      refine lv_iload hx hb dX1_slide_117 (lv_at hl 0 rfl) ?_
      refine lv_sipush (v := 200) hx hb dX1_slide_119 (by decide) ?_
      refine lv_icmp_ge (tgt := 167) hx hb dX1_slide_122 (by decide) (fun hc => absurd hc (nI_ge (b := 200) (by omega) (by decide))) (fun _ => ?_)
      refine lv_aload_n hx hb dX1_slide_125 rfl (lv_at hl 2 rfl) ?_
      refine va_get (D := G) (ci := 1) (C := RX1) (T := TX1) (N := 5) hx hb hts hin hown hK hP 0 rfl rfl 0 (by decide) (hts _ (tb_cons _ w_fl_X1_9)) (fun _ h9 => h9) rfl dX1_slide_126 ?_
      refine lv_iload hx hb dX1_slide_129 (lv_at hl 0 rfl) ?_
      refine q_zald hx hb hK hP 1 0 rfl rfl (i) rfl (by omega) (by decide) dX1_slide_131 ?_
      by_cases hT : T i = true
      · refine q_topi (y := 1) (ft_tb_t hT) ?_
        refine lv_if_ne (tgt := 138) hx hb dX1_slide_132 (by decide) (fun _ => ?_) (fun hc => absurd hc (by decide))
        refine lv_aload_n hx hb dX1_slide_138 rfl (lv_at hl 2 rfl) ?_
        refine va_get (D := G) (ci := 1) (C := RX1) (T := TX1) (N := 5) hx hb hts hin hown hK hP 0 rfl rfl 1 (by decide) (hts _ (tb_cons _ w_fl_X1_13)) (fun _ h9 => h9) rfl dX1_slide_139 ?_
        refine lv_iload hx hb dX1_slide_142 (lv_at hl 0 rfl) ?_
        refine lv_dup2_11 hx hb dX1_slide_144 rfl rfl ?_
        refine q_lald hx hb hK hP 2 1 rfl rfl (i) rfl (by omega) (by decide) dX1_slide_145 ?_
        refine q_topl (y := K i) ft_ks_at ?_
        refine lv_lload_n hx hb dX1_slide_146 rfl (lv_at hl 3 rfl) ?_
        refine lv_ladd hx hb dX1_slide_147 ?_
        refine q_last hx hb hK hP (hD _ _ _ _ _) hS 2 1 rfl rfl (i) rfl (by omega) (by decide) dX1_slide_148 (fun H locs hP hS => ?_)
        have hP : va_P G vwCl (wM a C T (vp_updL (ft_ks T K y i) i (K i + y)) D w 0) H := hP
        rw [ft_ks_t hT] at hP
        refine lv_lload_n hx hb dX1_slide_149 rfl (lv_at hl 1 rfl) ?_
        refine lv_aload_n hx hb dX1_slide_150 rfl (lv_at hl 2 rfl) ?_
        refine va_get (D := G) (ci := 1) (C := RX1) (T := TX1) (N := 5) hx hb hts hin hown hK hP 0 rfl rfl 1 (by decide) (hts _ (tb_cons _ w_fl_X1_13)) (fun _ h9 => h9) rfl dX1_slide_151 ?_
        refine lv_iload hx hb dX1_slide_154 (lv_at hl 0 rfl) ?_
        refine q_lald hx hb hK hP 2 1 rfl rfl (i) rfl (by omega) (by decide) dX1_slide_156 ?_
        refine q_topl (y := K i + y) (ft_ks_at1 hT) ?_
        refine va_mmin_long hx hb (hml.trans hl.1.symm) hown (hts _ (tb_cons _ w_ml_X1_56)) (hts _ (tb_cons _ w_st_min)) (hts _ (tb_cons _ w_in_Math)) (hts _ (tb_cons _ w_co_min)) (Nat.le_of_ble_eq_true rfl) (Nat.le_of_ble_eq_true rfl) (Nat.zero_le _) (Nat.zero_le _) dX1_slide_157 ?_
        refine q_topl (y := (ft_gf (fun k acc => if T k = true then ft_min acc (K k + y) else acc) 9223372036854775807 (i + 1))) (ft_gf_t (P := T) (g := fun k acc => ft_min acc (K k + y)) hT) ?_
        refine lv_lstore_n hx hb dX1_slide_160 rfl hl (by decide) rfl (fun ls hl => ?_)
        have hl : lv_has ls 6 [(3, .long (ft_gf (fun k acc => if T k = true then ft_min acc (K k + y) else acc) 9223372036854775807 (i + 1))), (5, .int (nI i)), (0, .ref (a 0)), (1, .long y)] := hl
        refine lv_iinc (k := 1) (v := nI (i + 1)) hx hb dX1_slide_161 hl rfl (nI_succ i).symm (by decide) rfl (fun ls hl => ?_)
        have hl : lv_has ls 6 [(5, .int (nI (i + 1))), (3, .long (ft_gf (fun k acc => if T k = true then ft_min acc (K k + y) else acc) 9223372036854775807 (i + 1))), (0, .ref (a 0)), (1, .long y)] := hl
        refine lv_goto (tgt := 117) hx hb dX1_slide_164 (by decide) ?_
        exact ih (i + 1) (by omega) H locs hP hS ls hl
      · refine q_topi (y := 0) (ft_tb_f hT) ?_
        refine lv_if_ne (tgt := 138) hx hb dX1_slide_132 (by decide) (fun hc => absurd (rfl) hc) (fun _ => ?_)
        refine lv_goto (tgt := 161) hx hb dX1_slide_135 (by decide) ?_
        refine lv_iinc (k := 0) (v := nI (i + 1)) hx hb dX1_slide_161 hl rfl (nI_succ i).symm (by decide) rfl (fun ls hl => ?_)
        have hl : lv_has ls 6 [(5, .int (nI (i + 1))), (3, .long (ft_gf (fun k acc => if T k = true then ft_min acc (K k + y) else acc) 9223372036854775807 i)), (0, .ref (a 0)), (1, .long y)] := hl
        refine lv_goto (tgt := 117) hx hb dX1_slide_164 (by decide) ?_
        exact ih (i + 1) (by omega) H locs (by rw [ft_ks_f hT]; exact hP) hS ls (by rw [ft_gf_f (P := T) (g := fun k acc => ft_min acc (K k + y)) hT]; exact hl)
  have loop : ∀ (k : Nat) (i : Nat), i + k = 200 → ft_fb (ft_slP T K y) k i = (ft_fb (ft_slP T K y) 200 0) → ∀ (H : Heap) (locs : List Loc), va_P G vwCl (wM a C T K D w 0) H → va_S A s.heap H locs → ∀ ls : Array Slot, lv_has ls 6 [(5, .int (nI i)), (3, .long 9223372036854775807), (0, .ref (a 0)), (1, .long y)] → W p l e { frames := 1, cells := 0, slots := 0, locals := 30 } s m ([.ref (a 0), .long y] : List Value).toArray below meth c H locs 0 0 (MQ below (wr_Q G vwCl (some (.long (ft_gf (fun k acc => if T k = true then ft_min acc (K k + y) else acc) 9223372036854775807 200))) (wM a C T (ft_ks T K y 200) D w 0) A) ([.ref (a 0), .long y] : List Value).toArray s 0 0 A) (F0 m 32 ls []) := by
    intro k
    induction k with
    | zero =>
      intro i hi hf H locs hP hS ls hl
      refine lv_iload hx hb dX1_slide_32 (lv_at hl 0 rfl) ?_
      refine lv_sipush (v := 200) hx hb dX1_slide_34 (by decide) ?_
      refine lv_icmp_ge (tgt := 114) hx hb dX1_slide_37 (by decide) (fun _ => ?_) (fun hc => absurd (nI_le (a := 200) (by omega) (by omega)) hc)
      refine lv_iconst (v := 0) hx hb dX1_slide_114 (by decide) ?_
      refine lv_istore hx hb dX1_slide_115 hl (by decide) rfl (fun ls hl => ?_)
      have hl : lv_has ls 6 [(5, .int 0), (3, .long 9223372036854775807), (0, .ref (a 0)), (1, .long y)] := hl
      exact loop2 200 0 (by omega) H locs (by rw [ft_ks_0]; exact hP) hS ls hl
    | succ k ih =>
      intro i hi hf H locs hP hS ls hl
      refine lv_iload hx hb dX1_slide_32 (lv_at hl 0 rfl) ?_
      refine lv_sipush (v := 200) hx hb dX1_slide_34 (by decide) ?_
      refine lv_icmp_ge (tgt := 114) hx hb dX1_slide_37 (by decide) (fun hc => absurd hc (nI_ge (b := 200) (by omega) (by decide))) (fun _ => ?_)
      refine lv_aload_n hx hb dX1_slide_40 rfl (lv_at hl 2 rfl) ?_
      refine va_get (D := G) (ci := 1) (C := RX1) (T := TX1) (N := 5) hx hb hts hin hown hK hP 0 rfl rfl 0 (by decide) (hts _ (tb_cons _ w_fl_X1_9)) (fun _ h9 => h9) rfl dX1_slide_41 ?_
      refine lv_iload hx hb dX1_slide_44 (lv_at hl 0 rfl) ?_
      refine q_zald hx hb hK hP 1 0 rfl rfl (i) rfl (by omega) (by decide) dX1_slide_46 ?_
      have hf : (if ft_slP T K y i = true then ft_fb (ft_slP T K y) k (i + 1) else i) = (ft_fb (ft_slP T K y) 200 0) := hf
      have hp : ft_slP T K y i = true := by
        by_cases z : ft_slP T K y i = true
        · exact z
        · rw [if_neg z] at hf
          omega
      rw [if_pos hp] at hf
      by_cases hT : T i = true
      · refine q_topi (y := 1) (ft_tb_t hT) ?_
        obtain ⟨c1, c2, c3, c4⟩ := ft_slP_t hp hT
        refine lv_if_ne (tgt := 53) hx hb dX1_slide_47 (by decide) (fun _ => ?_) (fun hc => absurd hc (by decide))
        refine lv_lload_n hx hb dX1_slide_53 rfl (lv_at hl 3 rfl) ?_
        refine lv_ldc2 (v := 8796093022208) hx hb hown (hts _ (tb_cons _ w_k_X1_44)) dX1_slide_54 ?_
        refine W.lcmp hx hb dX1_slide_57 ?_
        refine lv_if_gt (tgt := 101) hx hb dX1_slide_58 (by decide) (fun hc => absurd hc (fun z => c1 ((lg_cmp_gt _ _).mp z))) (fun _ => ?_)
        refine lv_lload_n hx hb dX1_slide_61 rfl (lv_at hl 3 rfl) ?_
        refine lv_ldc2 (v := (-8796093022208)) hx hb hown (hts _ (tb_cons _ w_k_X1_46)) dX1_slide_62 ?_
        refine W.lcmp hx hb dX1_slide_65 ?_
        refine lv_if_lt (tgt := 101) hx hb dX1_slide_66 (by decide) (fun hc => absurd hc (fun z => c2 ((lg_cmp_lt _ _).mp z))) (fun _ => ?_)
        refine lv_aload_n hx hb dX1_slide_69 rfl (lv_at hl 2 rfl) ?_
        refine va_get (D := G) (ci := 1) (C := RX1) (T := TX1) (N := 5) hx hb hts hin hown hK hP 0 rfl rfl 1 (by decide) (hts _ (tb_cons _ w_fl_X1_13)) (fun _ h9 => h9) rfl dX1_slide_70 ?_
        refine lv_iload hx hb dX1_slide_73 (lv_at hl 0 rfl) ?_
        refine q_lald hx hb hK hP 2 1 rfl rfl (i) rfl (by omega) (by decide) dX1_slide_75 ?_
        refine lv_lload_n hx hb dX1_slide_76 rfl (lv_at hl 3 rfl) ?_
        refine lv_ladd hx hb dX1_slide_77 ?_
        refine lv_ldc2 (v := (-2199023255552)) hx hb hown (hts _ (tb_cons _ w_k_X1_48)) dX1_slide_78 ?_
        refine W.lcmp hx hb dX1_slide_81 ?_
        refine lv_if_lt (tgt := 101) hx hb dX1_slide_82 (by decide) (fun hc => absurd hc (fun z => c3 ((lg_cmp_lt _ _).mp z))) (fun _ => ?_)
        refine lv_aload_n hx hb dX1_slide_85 rfl (lv_at hl 2 rfl) ?_
        refine va_get (D := G) (ci := 1) (C := RX1) (T := TX1) (N := 5) hx hb hts hin hown hK hP 0 rfl rfl 1 (by decide) (hts _ (tb_cons _ w_fl_X1_13)) (fun _ h9 => h9) rfl dX1_slide_86 ?_
        refine lv_iload hx hb dX1_slide_89 (lv_at hl 0 rfl) ?_
        refine q_lald hx hb hK hP 2 1 rfl rfl (i) rfl (by omega) (by decide) dX1_slide_91 ?_
        refine lv_lload_n hx hb dX1_slide_92 rfl (lv_at hl 3 rfl) ?_
        refine lv_ladd hx hb dX1_slide_93 ?_
        refine lv_ldc2 (v := 2199023255552) hx hb hown (hts _ (tb_cons _ w_k_X1_50)) dX1_slide_94 ?_
        refine W.lcmp hx hb dX1_slide_97 ?_
        refine lv_if_le (tgt := 108) hx hb dX1_slide_98 (by decide) (fun _ => ?_) (fun hc => absurd ((lg_cmp_le _ _).mpr (Int64.not_lt.mp c4)) hc)
        refine lv_iinc (k := 0) (v := nI (i + 1)) hx hb dX1_slide_108 hl rfl (nI_succ i).symm (by decide) rfl (fun ls hl => ?_)
        have hl : lv_has ls 6 [(5, .int (nI (i + 1))), (3, .long 9223372036854775807), (0, .ref (a 0)), (1, .long y)] := hl
        refine lv_goto (tgt := 32) hx hb dX1_slide_111 (by decide) ?_
        exact ih (i + 1) (by omega) hf H locs hP hS ls hl
      · refine q_topi (y := 0) (ft_tb_f hT) ?_
        refine lv_if_ne (tgt := 53) hx hb dX1_slide_47 (by decide) (fun hc => absurd (rfl) hc) (fun _ => ?_)
        refine lv_goto (tgt := 108) hx hb dX1_slide_50 (by decide) ?_
        refine lv_iinc (k := 0) (v := nI (i + 1)) hx hb dX1_slide_108 hl rfl (nI_succ i).symm (by decide) rfl (fun ls hl => ?_)
        have hl : lv_has ls 6 [(5, .int (nI (i + 1))), (3, .long 9223372036854775807), (0, .ref (a 0)), (1, .long y)] := hl
        refine lv_goto (tgt := 32) hx hb dX1_slide_111 (by decide) ?_
        exact ih (i + 1) (by omega) hf H locs hP hS ls hl
  exact loop 200 0 (by omega) rfl H locs hP hS ls hl
