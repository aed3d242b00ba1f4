set_option maxHeartbeats 4000000 in
set_option maxRecDepth 100000 in
theorem cx_isNumber_in (l : Launch) {j : Nat} (hj : j < 200) : Met l yX0_isNumber wsX0_isNumber rm0 (va_Pc [.int (nI j)] (fun _ => True)) (rd_Q (.int 1)) 0 0 (fun _ => False) := by
  refine q_open (cc := cX0_isNumber) (maxL := 1) (ret := (some .boolean)) (by decide) rfl (Nat.le_of_ble_eq_true rfl) ?_
  intro p e s m below meth c ls S hr hlk hB hl
  obtain ⟨hx, hb, hml, hown, hts⟩ := id S
  have hl : lv_has ls 1 [(0, .int (nI j))] := hl
  refine lv_iload_n hx hb dX0_isNumber_0 rfl (lv_at hl 0 rfl) ?_
  refine lv_if_lt (tgt := 15) hx hb dX0_isNumber_1 (by decide) (fun hc => absurd hc (nI_pos (by omega))) (fun _ => ?_)
  refine lv_iload_n hx hb dX0_isNumber_4 rfl (lv_at hl 0 rfl) ?_
  refine lv_sipush (v := 200) hx hb dX0_isNumber_5 (by decide) ?_
  refine lv_icmp_ge (tgt := 15) hx hb dX0_isNumber_8 (by decide) (fun hc => absurd hc (nI_ge (a := j) (b := 200) hj (by decide))) (fun _ => ?_)
  refine lv_iconst (v := 1) hx hb dX0_isNumber_11 (by decide) ?_
  refine lv_goto (tgt := 16) hx hb dX0_isNumber_12 (by decide) ?_
  exact W.zret hx hb hr rfl (fun t ht _ => ⟨rfl, ht⟩) (fun q h => by cases h) dX0_isNumber_16
set_option maxHeartbeats 4000000 in
set_option maxRecDepth 100000 in
theorem cx_isNumber_out (l : Launch) {x : Int32} (h : x < 0 ∨ 200 ≤ x) : Met l yX0_isNumber wsX0_isNumber rm0 (va_Pc [.int x] (fun _ => True)) (rd_Q (.int 0)) 0 0 (fun _ => False) := by
  refine q_open (cc := cX0_isNumber) (maxL := 1) (ret := (some .boolean)) (by decide) rfl (Nat.le_of_ble_eq_true rfl) ?_
  intro p e s m below meth c ls S hr hlk hB hl
  obtain ⟨hx, hb, hml, hown, hts⟩ := id S
  have hl : lv_has ls 1 [(0, .int x)] := hl
  refine lv_iload_n hx hb dX0_isNumber_0 rfl (lv_at hl 0 rfl) ?_
  refine lv_if_lt (tgt := 15) hx hb dX0_isNumber_1 (by decide) (fun hc => ?_) (fun hc => ?_)
  · refine lv_iconst (v := 0) hx hb dX0_isNumber_15 (by decide) ?_
    exact W.zret hx hb hr rfl (fun t ht _ => ⟨rfl, ht⟩) (fun q h => by cases h) dX0_isNumber_16
  · refine lv_iload_n hx hb dX0_isNumber_4 rfl (lv_at hl 0 rfl) ?_
    refine lv_sipush (v := 200) hx hb dX0_isNumber_5 (by decide) ?_
    refine lv_icmp_ge (tgt := 15) hx hb dX0_isNumber_8 (by decide) (fun _ => ?_) (fun hc2 => absurd (h.resolve_left hc) hc2)
    refine lv_iconst (v := 0) hx hb dX0_isNumber_15 (by decide) ?_
    exact W.zret hx hb hr rfl (fun t ht _ => ⟨rfl, ht⟩) (fun q h => by cases h) dX0_isNumber_16
set_option maxHeartbeats 4000000 in
set_option maxRecDepth 100000 in
theorem cx_mayBePut_in (l : Launch) {k : Int64} (h : ¬ k < (-1099511627776) ∧ ¬ 1099511627776 < k) : Met l yX0_mayBePut wsX0_mayBePut rm0 (va_Pc [.long k] (fun _ => True)) (rd_Q (.int 1)) 0 0 (fun _ => False) := by
  refine q_open (cc := cX0_mayBePut) (maxL := 2) (ret := (some .boolean)) (by decide) rfl (Nat.le_of_ble_eq_true rfl) ?_
  intro p e s m below meth c ls S hr hlk hB hl
  obtain ⟨hx, hb, hml, hown, hts⟩ := id S
  have hl : lv_has ls 2 [(0, .long k)] := hl
  refine lv_lload_n hx hb dX0_mayBePut_0 rfl (lv_at hl 0 rfl) ?_
  refine lv_ldc2 (v := (-1099511627776)) hx hb hown (hts _ (tb_cons _ w_k_X0_96)) dX0_mayBePut_1 ?_
  refine W.lcmp hx hb dX0_mayBePut_4 ?_
  refine lv_if_lt (tgt := 20) hx hb dX0_mayBePut_5 (by decide) (fun hc => absurd hc (fun q => h.1 ((lg_cmp_lt _ _).mp q))) (fun _ => ?_)
  refine lv_lload_n hx hb dX0_mayBePut_8 rfl (lv_at hl 0 rfl) ?_
  refine lv_ldc2 (v := 1099511627776) hx hb hown (hts _ (tb_cons _ w_k_X0_98)) dX0_mayBePut_9 ?_
  refine W.lcmp hx hb dX0_mayBePut_12 ?_
  refine lv_if_gt (tgt := 20) hx hb dX0_mayBePut_13 (by decide) (fun hc => absurd hc (fun q => h.2 ((lg_cmp_gt _ _).mp q))) (fun _ => ?_)
  refine lv_iconst (v := 1) hx hb dX0_mayBePut_16 (by decide) ?_
  refine lv_goto (tgt := 21) hx hb dX0_mayBePut_17 (by decide) ?_
  exact W.zret hx hb hr rfl (fun t ht _ => ⟨rfl, ht⟩) (fun q h => by cases h) dX0_mayBePut_21
set_option maxHeartbeats 4000000 in
set_option maxRecDepth 100000 in
theorem cx_mayBePut_out (l : Launch) {k : Int64} (h : k < (-1099511627776) ∨ 1099511627776 < k) : Met l yX0_mayBePut wsX0_mayBePut rm0 (va_Pc [.long k] (fun _ => True)) (rd_Q (.int 0)) 0 0 (fun _ => False) := by
  refine q_open (cc := cX0_mayBePut) (maxL := 2) (ret := (some .boolean)) (by decide) rfl (Nat.le_of_ble_eq_true rfl) ?_
  intro p e s m below meth c ls S hr hlk hB hl
  obtain ⟨hx, hb, hml, hown, hts⟩ := id S
  have hl : lv_has ls 2 [(0, .long k)] := hl
  refine lv_lload_n hx hb dX0_mayBePut_0 rfl (lv_at hl 0 rfl) ?_
  refine lv_ldc2 (v := (-1099511627776)) hx hb hown (hts _ (tb_cons _ w_k_X0_96)) dX0_mayBePut_1 ?_
  refine W.lcmp hx hb dX0_mayBePut_4 ?_
  refine lv_if_lt (tgt := 20) hx hb dX0_mayBePut_5 (by decide) (fun hc => ?_) (fun hc => ?_)
  · refine lv_iconst (v := 0) hx hb dX0_mayBePut_20 (by decide) ?_
    exact W.zret hx hb hr rfl (fun t ht _ => ⟨rfl, ht⟩) (fun q h => by cases h) dX0_mayBePut_21
  · refine lv_lload_n hx hb dX0_mayBePut_8 rfl (lv_at hl 0 rfl) ?_
    refine lv_ldc2 (v := 1099511627776) hx hb hown (hts _ (tb_cons _ w_k_X0_98)) dX0_mayBePut_9 ?_
    refine W.lcmp hx hb dX0_mayBePut_12 ?_
    refine lv_if_gt (tgt := 20) hx hb dX0_mayBePut_13 (by decide) (fun _ => ?_) (fun hc2 => absurd ((lg_cmp_gt _ _).mpr (h.resolve_left (fun q => hc ((lg_cmp_lt _ _).mpr q)))) hc2)
    refine lv_iconst (v := 0) hx hb dX0_mayBePut_20 (by decide) ?_
    exact W.zret hx hb hr rfl (fun t ht _ => ⟨rfl, ht⟩) (fun q h => by cases h) dX0_mayBePut_21
set_option maxHeartbeats 4000000 in
set_option maxRecDepth 100000 in
theorem cx_isThere_yes (l : Launch) (G : va_G) (a : Nat → Nat) (C : Nat → ClassId) (K D : Nat → Int64) (Wt O : Nat → Int32) (n : Int32) {j : Nat} (hj : j < 200) (h : 0 < Wt j) : Met l yX0_isThere wsX0_isThere { frames := 1, cells := 0, slots := 0, locals := 30 } (va_Pc [.ref (a 0), .int (nI j)] (rX G a C K D Wt O n)) (rd_Q (.int 1)) 0 0 (fun _ => False) := by
  refine q_open (cc := cX0_isThere) (maxL := 2) (ret := (some .boolean)) (by decide) rfl (Nat.le_of_ble_eq_true rfl) ?_
  intro p e s m below meth c ls S hr hlk hB hl
  obtain ⟨hx, hb, hml, hown, hts⟩ := id S
  obtain ⟨hP, hK⟩ := hB
  have hin : ∀ w ∈ u_ws RX0 TX0 5, w ∈ wsX0_isThere := fun w h => tb_cons w (hinX0 w h)
  have hl : lv_has ls 2 [(0, .ref (a 0)), (1, .int (nI j))] := hl
  refine lv_iload_n hx hb dX0_isThere_0 rfl (lv_at hl 1 rfl) ?_
  refine rd_call (W.runS (As := [.int (nI j)]) (rest := []) S (cx_isNumber_in l hj) (cwS 1 hts (gX0_27 tb_cons) rfl rfl rfl (by decide +kernel) ⟨Nat.le_of_ble_eq_true rfl, Nat.le_of_ble_eq_true rfl⟩) ⟨fun _ _ _ _ q => q, fun U _ _ => ⟨rfl, trivial⟩⟩ rfl rfl hl.1 rfl (lv_room (Nat.le_of_ble_eq_true rfl)) dX0_isThere_1 ⟨Nat.zero_le _, Nat.zero_le _⟩) ?_
  refine lv_if_eq (tgt := 20) hx hb dX0_isThere_4 (by decide) (fun hc => absurd hc (by decide)) (fun _ => ?_)
  refine lv_aload_n hx hb dX0_isThere_7 rfl (lv_at hl 0 rfl) ?_
  refine va_get (D := G) (ci := 0) (C := RX0) (T := TX0) (N := 5) hx hb hts hin hown hK hP 0 rfl rfl 2 (by decide) (hts _ (tb_cons _ w_fl_X0_16)) (fun _ h9 => h9) rfl dX0_isThere_8 ?_
  refine lv_iload_n hx hb dX0_isThere_11 rfl (lv_at hl 1 rfl) ?_
  refine q_iald hx hb hK hP 3 2 rfl rfl (j) rfl hj (by decide) dX0_isThere_12 ?_
  refine lv_if_le (tgt := 20) hx hb dX0_isThere_13 (by decide) (fun hc => absurd hc (Int32.not_le.mpr h)) (fun _ => ?_)
  refine lv_iconst (v := 1) hx hb dX0_isThere_16 (by decide) ?_
  refine lv_goto (tgt := 21) hx hb dX0_isThere_17 (by decide) ?_
  exact W.zret hx hb hr rfl (fun t ht _ => ⟨rfl, ht⟩) (fun q h => by cases h) dX0_isThere_21
set_option maxHeartbeats 4000000 in
set_option maxRecDepth 100000 in
theorem cx_isThere_no (l : Launch) (G : va_G) (a : Nat → Nat) (C : Nat → ClassId) (K D : Nat → Int64) (Wt O : Nat → Int32) (n : Int32) {j : Nat} (hj : j < 200) (h : Wt j ≤ 0) : Met l yX0_isThere wsX0_isThere { frames := 1, cells := 0, slots := 0, locals := 30 } (va_Pc [.ref (a 0), .int (nI j)] (rX G a C K D Wt O n)) (rd_Q (.int 0)) 0 0 (fun _ => False) := by
  refine q_open (cc := cX0_isThere) (maxL := 2) (ret := (some .boolean)) (by decide) rfl (Nat.le_of_ble_eq_true rfl) ?_
  intro p e s m below meth c ls S hr hlk hB hl
  obtain ⟨hx, hb, hml, hown, hts⟩ := id S
  obtain ⟨hP, hK⟩ := hB
  have hin : ∀ w ∈ u_ws RX0 TX0 5, w ∈ wsX0_isThere := fun w h => tb_cons w (hinX0 w h)
  have hl : lv_has ls 2 [(0, .ref (a 0)), (1, .int (nI j))] := hl
  refine lv_iload_n hx hb dX0_isThere_0 rfl (lv_at hl 1 rfl) ?_
  refine rd_call (W.runS (As := [.int (nI j)]) (rest := []) S (cx_isNumber_in l hj) (cwS 1 hts (gX0_27 tb_cons) rfl rfl rfl (by decide +kernel) ⟨Nat.le_of_ble_eq_true rfl, Nat.le_of_ble_eq_true rfl⟩) ⟨fun _ _ _ _ q => q, fun U _ _ => ⟨rfl, trivial⟩⟩ rfl rfl hl.1 rfl (lv_room (Nat.le_of_ble_eq_true rfl)) dX0_isThere_1 ⟨Nat.zero_le _, Nat.zero_le _⟩) ?_
  refine lv_if_eq (tgt := 20) hx hb dX0_isThere_4 (by decide) (fun hc => absurd hc (by decide)) (fun _ => ?_)
  refine lv_aload_n hx hb dX0_isThere_7 rfl (lv_at hl 0 rfl) ?_
  refine va_get (D := G) (ci := 0) (C := RX0) (T := TX0) (N := 5) hx hb hts hin hown hK hP 0 rfl rfl 2 (by decide) (hts _ (tb_cons _ w_fl_X0_16)) (fun _ h9 => h9) rfl dX0_isThere_8 ?_
  refine lv_iload_n hx hb dX0_isThere_11 rfl (lv_at hl 1 rfl) ?_
  refine q_iald hx hb hK hP 3 2 rfl rfl (j) rfl hj (by decide) dX0_isThere_12 ?_
  refine lv_if_le (tgt := 20) hx hb dX0_isThere_13 (by decide) (fun _ => ?_) (fun hc => absurd (h) hc)
  refine lv_iconst (v := 0) hx hb dX0_isThere_20 (by decide) ?_
  exact W.zret hx hb hr rfl (fun t ht _ => ⟨rfl, ht⟩) (fun q h => by cases h) dX0_isThere_21
set_option maxHeartbeats 4000000 in
set_option maxRecDepth 100000 in
theorem cx_isThere_out (l : Launch) (G : va_G) (a : Nat → Nat) (C : Nat → ClassId) (K D : Nat → Int64) (Wt O : Nat → Int32) (n : Int32) {x : Int32} (h : x < 0 ∨ 200 ≤ x) : Met l yX0_isThere wsX0_isThere { frames := 1, cells := 0, slots := 0, locals := 30 } (va_Pc [.ref (a 0), .int x] (rX G a C K D Wt O n)) (rd_Q (.int 0)) 0 0 (fun _ => False) := by
  refine q_open (cc := cX0_isThere) (maxL := 2) (ret := (some .boolean)) (by decide) rfl (Nat.le_of_ble_eq_true rfl) ?_
  intro p e s m below meth c ls S hr hlk hB hl
  obtain ⟨hx, hb, hml, hown, hts⟩ := id S
  obtain ⟨hP, hK⟩ := hB
  have hin : ∀ w ∈ u_ws RX0 TX0 5, w ∈ wsX0_isThere := fun w h => tb_cons w (hinX0 w h)
  have hl : lv_has ls 2 [(0, .ref (a 0)), (1, .int x)] := hl
  refine lv_iload_n hx hb dX0_isThere_0 rfl (lv_at hl 1 rfl) ?_
  refine rd_call (W.runS (As := [.int x]) (rest := []) S (cx_isNumber_out l h) (cwS 1 hts (gX0_27 tb_cons) rfl rfl rfl (by decide +kernel) ⟨Nat.le_of_ble_eq_true rfl, Nat.le_of_ble_eq_true rfl⟩) ⟨fun _ _ _ _ q => q, fun U _ _ => ⟨rfl, trivial⟩⟩ rfl rfl hl.1 rfl (lv_room (Nat.le_of_ble_eq_true rfl)) dX0_isThere_1 ⟨Nat.zero_le _, Nat.zero_le _⟩) ?_
  refine lv_if_eq (tgt := 20) hx hb dX0_isThere_4 (by decide) (fun _ => ?_) (fun hc => absurd (rfl) hc)
  refine lv_iconst (v := 0) hx hb dX0_isThere_20 (by decide) ?_
  exact W.zret hx hb hr rfl (fun t ht _ => ⟨rfl, ht⟩) (fun q h => by cases h) dX0_isThere_21
set_option maxHeartbeats 4000000 in
set_option maxRecDepth 100000 in
theorem cx_keyAt (l : Launch) (G : va_G) (a : Nat → Nat) (C : Nat → ClassId) (K D : Nat → Int64) (Wt O : Nat → Int32) (n : Int32) {i j : Nat} (hi : i < 200) (hO : O i = nI j) (hj : j < 200) : Met l yX0_keyAt wsX0_keyAt rm0 (va_Pc [.ref (a 0), .int (nI i)] (rX G a C K D Wt O n)) (rd_Q (.long (K j))) 0 0 (fun _ => False) := by
  refine q_open (cc := cX0_keyAt) (maxL := 2) (ret := (some .long)) (by decide) rfl (Nat.le_of_ble_eq_true rfl) ?_
  intro p e s m below meth c ls S hr hlk hB hl
  obtain ⟨hx, hb, hml, hown, hts⟩ := id S
  obtain ⟨hP, hK⟩ := hB
  have hin : ∀ w ∈ u_ws RX0 TX0 5, w ∈ wsX0_keyAt := fun w h => tb_cons w (hinX0 w h)
  have hl : lv_has ls 2 [(0, .ref (a 0)), (1, .int (nI i))] := hl
  refine lv_aload_n hx hb dX0_keyAt_0 rfl (lv_at hl 0 rfl) ?_
  refine va_get (D := G) (ci := 0) (C := RX0) (T := TX0) (N := 5) hx hb hts hin hown hK hP 0 rfl rfl 0 (by decide) (hts _ (tb_cons _ w_fl_X0_9)) (fun _ h9 => h9) rfl dX0_keyAt_1 ?_
  refine lv_aload_n hx hb dX0_keyAt_4 rfl (lv_at hl 0 rfl) ?_
  refine va_get (D := G) (ci := 0) (C := RX0) (T := TX0) (N := 5) hx hb hts hin hown hK hP 0 rfl rfl 3 (by decide) (hts _ (tb_cons _ w_fl_X0_20)) (fun _ h9 => h9) rfl dX0_keyAt_5 ?_
  refine lv_iload_n hx hb dX0_keyAt_8 rfl (lv_at hl 1 rfl) ?_
  refine q_iald hx hb hK hP 4 3 rfl rfl (i) rfl hi (by decide) dX0_keyAt_9 ?_
  refine q_topi (y := nI j) hO ?_
  refine q_lald hx hb hK hP 1 0 rfl rfl (j) rfl hj (by decide) dX0_keyAt_10 ?_
  exact W.lret hx hb hr (fun t ht _ => ⟨rfl, ht⟩) (fun q h => by cases h) dX0_keyAt_11
set_option maxHeartbeats 4000000 in
set_option maxRecDepth 100000 in
theorem cx_standsBefore (l : Launch) (G : va_G) (a : Nat → Nat) (C : Nat → ClassId) (K D : Nat → Int64) (Wt O : Nat → Int32) (n : Int32) {j : Nat} (hj : j < 200) (key : Int64) (num : Int32) : Met l yX0_standsBefore wsX0_standsBefore rm0 (va_Pc [.ref (a 0), .int (nI j), .long key, .int num] (rX G a C K D Wt O n)) (rd_Q (.int (if ft_sb K key num j = true then 1 else 0))) 0 0 (fun _ => False) := by
  refine q_open (cc := cX0_standsBefore) (maxL := 5) (ret := (some .boolean)) (by decide) rfl (Nat.le_of_ble_eq_true rfl) ?_
  intro p e s m below meth c ls S hr hlk hB hl
  obtain ⟨hx, hb, hml, hown, hts⟩ := id S
  obtain ⟨hP, hK⟩ := hB
  have hin : ∀ w ∈ u_ws RX0 TX0 5, w ∈ wsX0_standsBefore := fun w h => tb_cons w (hinX0 w h)
  have hl : lv_has ls 5 [(0, .ref (a 0)), (1, .int (nI j)), (2, .long key), (4, .int num)] := hl
  refine lv_aload_n hx hb dX0_standsBefore_0 rfl (lv_at hl 0 rfl) ?_
  refine va_get (D := G) (ci := 0) (C := RX0) (T := TX0) (N := 5) hx hb hts hin hown hK hP 0 rfl rfl 0 (by decide) (hts _ (tb_cons _ w_fl_X0_9)) (fun _ h9 => h9) rfl dX0_standsBefore_1 ?_
  refine lv_iload_n hx hb dX0_standsBefore_4 rfl (lv_at hl 1 rfl) ?_
  refine q_lald hx hb hK hP 1 0 rfl rfl (j) rfl hj (by decide) dX0_standsBefore_5 ?_
  refine lv_lload_n hx hb dX0_standsBefore_6 rfl (lv_at hl 2 rfl) ?_
  refine W.lcmp hx hb dX0_standsBefore_7 ?_
  refine lv_if_lt (tgt := 28) hx hb dX0_standsBefore_8 (by decide) (fun h1 => ?_) (fun h1 => ?_)
  · refine lv_iconst (v := 1) hx hb dX0_standsBefore_28 (by decide) ?_
    refine lv_goto (tgt := 33) hx hb dX0_standsBefore_29 (by decide) ?_
    exact W.zret hx hb hr rfl (fun t ht _ => ⟨by rw [if_pos (ft_sb_iff.mpr (Or.inl ((lg_cmp_lt _ _).mp h1)))], ht⟩) (fun q h => by cases h) dX0_standsBefore_33
  · refine lv_aload_n hx hb dX0_standsBefore_11 rfl (lv_at hl 0 rfl) ?_
    refine va_get (D := G) (ci := 0) (C := RX0) (T := TX0) (N := 5) hx hb hts hin hown hK hP 0 rfl rfl 0 (by decide) (hts _ (tb_cons _ w_fl_X0_9)) (fun _ h9 => h9) rfl dX0_standsBefore_12 ?_
    refine lv_iload_n hx hb dX0_standsBefore_15 rfl (lv_at hl 1 rfl) ?_
    refine q_lald hx hb hK hP 1 0 rfl rfl (j) rfl hj (by decide) dX0_standsBefore_16 ?_
    refine lv_lload_n hx hb dX0_standsBefore_17 rfl (lv_at hl 2 rfl) ?_
    refine W.lcmp hx hb dX0_standsBefore_18 ?_
    refine lv_if_ne (tgt := 32) hx hb dX0_standsBefore_19 (by decide) (fun h2 => ?_) (fun h2 => ?_)
    · refine lv_iconst (v := 0) hx hb dX0_standsBefore_32 (by decide) ?_
      exact W.zret hx hb hr rfl (fun t ht _ => ⟨by rw [if_neg (fun q => (ft_sb_iff.mp q).elim (fun z => h1 ((lg_cmp_lt _ _).mpr z)) (fun z => h2 ((lg_cmp_eq _ _).mpr z.1)))], ht⟩) (fun q h => by cases h) dX0_standsBefore_33
    · refine lv_iload_n hx hb dX0_standsBefore_22 rfl (lv_at hl 1 rfl) ?_
      refine lv_iload hx hb dX0_standsBefore_23 (lv_at hl 3 rfl) ?_
      refine lv_icmp_ge (tgt := 32) hx hb dX0_standsBefore_25 (by decide) (fun h3 => ?_) (fun h3 => ?_)
      · refine lv_iconst (v := 0) hx hb dX0_standsBefore_32 (by decide) ?_
        exact W.zret hx hb hr rfl (fun t ht _ => ⟨by rw [if_neg (fun q => (ft_sb_iff.mp q).elim (fun z => h1 ((lg_cmp_lt _ _).mpr z)) (fun z => Int32.not_le.mpr z.2 h3))], ht⟩) (fun q h => by cases h) dX0_standsBefore_33
      · refine lv_iconst (v := 1) hx hb dX0_standsBefore_28 (by decide) ?_
        refine lv_goto (tgt := 33) hx hb dX0_standsBefore_29 (by decide) ?_
        exact W.zret hx hb hr rfl (fun t ht _ => ⟨by rw [if_pos (ft_sb_iff.mpr (Or.inr ⟨(lg_cmp_eq _ _).mp h2, Int32.not_le.mp h3⟩))], ht⟩) (fun q h => by cases h) dX0_standsBefore_33
set_option maxHeartbeats 4000000 in
set_option maxRecDepth 100000 in
theorem cx_isEarlier (l : Launch) (G : va_G) (a : Nat → Nat) (C : Nat → ClassId) (K D : Nat → Int64) (Wt O : Nat → Int32) (n : Int32) {j f : Nat} (hj : j < 200) (hf : f < 200) : Met l yX0_isEarlier wsX0_isEarlier rm0 (va_Pc [.ref (a 0), .int (nI j), .int (nI f)] (rX G a C K D Wt O n)) (rd_Q (.int (if ft_sb D (D f) (nI f) j = true then 1 else 0))) 0 0 (fun _ => False) := by
  refine q_open (cc := cX0_isEarlier) (maxL := 3) (ret := (some .boolean)) (by decide) rfl (Nat.le_of_ble_eq_true rfl) ?_
  intro p e s m below meth c ls S hr hlk hB hl
  obtain ⟨hx, hb, hml, hown, hts⟩ := id S
  obtain ⟨hP, hK⟩ := hB
  have hin : ∀ w ∈ u_ws RX0 TX0 5, w ∈ wsX0_isEarlier := fun w h => tb_cons w (hinX0 w h)
  have hl : lv_has ls 3 [(0, .ref (a 0)), (1, .int (nI j)), (2, .int (nI f))] := hl
  refine lv_aload_n hx hb dX0_isEarlier_0 rfl (lv_at hl 0 rfl) ?_
  refine va_get (D := G) (ci := 0) (C := RX0) (T := TX0) (N := 5) hx hb hts hin hown hK hP 0 rfl rfl 1 (by decide) (hts _ (tb_cons _ w_fl_X0_13)) (fun _ h9 => h9) rfl dX0_isEarlier_1 ?_
  refine lv_iload_n hx hb dX0_isEarlier_4 rfl (lv_at hl 1 rfl) ?_
  refine q_lald hx hb hK hP 2 1 rfl rfl (j) rfl hj (by decide) dX0_isEarlier_5 ?_
  refine lv_aload_n hx hb dX0_isEarlier_6 rfl (lv_at hl 0 rfl) ?_
  refine va_get (D := G) (ci := 0) (C := RX0) (T := TX0) (N := 5) hx hb hts hin hown hK hP 0 rfl rfl 1 (by decide) (hts _ (tb_cons _ w_fl_X0_13)) (fun _ h9 => h9) rfl dX0_isEarlier_7 ?_
  refine lv_iload_n hx hb dX0_isEarlier_10 rfl (lv_at hl 2 rfl) ?_
  refine q_lald hx hb hK hP 2 1 rfl rfl (f) rfl hf (by decide) dX0_isEarlier_11 ?_
  refine W.lcmp hx hb dX0_isEarlier_12 ?_
  refine lv_if_lt (tgt := 37) hx hb dX0_isEarlier_13 (by decide) (fun h1 => ?_) (fun h1 => ?_)
  · refine lv_iconst (v := 1) hx hb dX0_isEarlier_37 (by decide) ?_
    refine lv_goto (tgt := 42) hx hb dX0_isEarlier_38 (by decide) ?_
    exact W.zret hx hb hr rfl (fun t ht _ => ⟨by rw [if_pos (ft_sb_iff.mpr (Or.inl ((lg_cmp_lt _ _).mp h1)))], ht⟩) (fun q h => by cases h) dX0_isEarlier_42
  · refine lv_aload_n hx hb dX0_isEarlier_16 rfl (lv_at hl 0 rfl) ?_
    refine va_get (D := G) (ci := 0) (C := RX0) (T := TX0) (N := 5) hx hb hts hin hown hK hP 0 rfl rfl 1 (by decide) (hts _ (tb_cons _ w_fl_X0_13)) (fun _ h9 => h9) rfl dX0_isEarlier_17 ?_
    refine lv_iload_n hx hb dX0_isEarlier_20 rfl (lv_at hl 1 rfl) ?_
    refine q_lald hx hb hK hP 2 1 rfl rfl (j) rfl hj (by decide) dX0_isEarlier_21 ?_
    refine lv_aload_n hx hb dX0_isEarlier_22 rfl (lv_at hl 0 rfl) ?_
    refine va_get (D := G) (ci := 0) (C := RX0) (T := TX0) (N := 5) hx hb hts hin hown hK hP 0 rfl rfl 1 (by decide) (hts _ (tb_cons _ w_fl_X0_13)) (fun _ h9 => h9) rfl dX0_isEarlier_23 ?_
    refine lv_iload_n hx hb dX0_isEarlier_26 rfl (lv_at hl 2 rfl) ?_
    refine q_lald hx hb hK hP 2 1 rfl rfl (f) rfl hf (by decide) dX0_isEarlier_27 ?_
    refine W.lcmp hx hb dX0_isEarlier_28 ?_
    refine lv_if_ne (tgt := 41) hx hb dX0_isEarlier_29 (by decide) (fun h2 => ?_) (fun h2 => ?_)
    · refine lv_iconst (v := 0) hx hb dX0_isEarlier_41 (by decide) ?_
      exact W.zret hx hb hr rfl (fun t ht _ => ⟨by rw [if_neg (fun q => (ft_sb_iff.mp q).elim (fun z => h1 ((lg_cmp_lt _ _).mpr z)) (fun z => h2 ((lg_cmp_eq _ _).mpr z.1)))], ht⟩) (fun q h => by cases h) dX0_isEarlier_42
    · refine lv_iload_n hx hb dX0_isEarlier_32 rfl (lv_at hl 1 rfl) ?_
      refine lv_iload_n hx hb dX0_isEarlier_33 rfl (lv_at hl 2 rfl) ?_
      refine lv_icmp_ge (tgt := 41) hx hb dX0_isEarlier_34 (by decide) (fun h3 => ?_) (fun h3 => ?_)
      · refine lv_iconst (v := 0) hx hb dX0_isEarlier_41 (by decide) ?_
        exact W.zret hx hb hr rfl (fun t ht _ => ⟨by rw [if_neg (fun q => (ft_sb_iff.mp q).elim (fun z => h1 ((lg_cmp_lt _ _).mpr z)) (fun z => Int32.not_le.mpr z.2 h3))], ht⟩) (fun q h => by cases h) dX0_isEarlier_42
      · refine lv_iconst (v := 1) hx hb dX0_isEarlier_37 (by decide) ?_
        refine lv_goto (tgt := 42) hx hb dX0_isEarlier_38 (by decide) ?_
        exact W.zret hx hb hr rfl (fun t ht _ => ⟨by rw [if_pos (ft_sb_iff.mpr (Or.inr ⟨(lg_cmp_eq _ _).mp h2, Int32.not_le.mp h3⟩))], ht⟩) (fun q h => by cases h) dX0_isEarlier_42
