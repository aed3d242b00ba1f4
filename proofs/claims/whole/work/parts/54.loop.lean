/-! the law's loop -/
theorem lp_cmp {L t : Nat} (hL : L ≤ 3584) (ht : 7 * t ≤ 3584) : nI L - 7 < nI (7 * t) ↔ L < 7 * t + 7 := by
  have h1 := pk_sub_toInt (a := L) (b := 7) (by omega) (by omega)
  rw [Int32.lt_iff_toInt_lt, show (7 : Int32) = nI 7 from rfl, h1, nI_toInt (by omega)]
  omega
set_option maxHeartbeats 4000000 in
theorem lw_loop {p : Program} {l : Launch} {e : Env} {s : State} {m : MethodId} {below : List Frame} {meth : Method} {c : Code} {b L : Nat} {xs : Nat → Int32} {G : va_G} {aX : Nat → Nat} {CX : Nat → ClassId} {aM : Nat → Nat} {CM : Nat → ClassId} {oo : Nat} {Co : ClassId} (h : LC p s m meth c b L xs G aX CX aM CM oo Co) (hTr : ∀ e : Env, l.admits e → e.platform.stackTraces = false) : ∀ (k t : Nat), L < 7 * t + 7 + 7 * k → 7 * t ≤ 3584 → ∀ (H : Heap) (locs : List Loc) (ls : Array Slot), LSt s b G aX CX aM CM oo Co t H locs ls → W p l e room_1 s m #[Value.ref b] below meth c H locs (11 + t) (1611 + 6 * t) (lw_Z below #[Value.ref b] s) (F0 m 23 ls []) := by
  obtain ⟨⟨S, hr, hlk, hX, hbl, hL⟩, ⟨hKX, hKM, hZ, hNc⟩, hapX, hapM, hdis, hAX, hAM⟩ := id h
  obtain ⟨hx, hb, hml, hown, hts⟩ := id S
  have hbA : ¬ (fun q => s.heap.size ≤ q) b := fun z => Nat.not_lt.mpr z hbl
  intro k
  induction k with
  | zero =>
    intro t hk ht H locs ls hst
    obtain ⟨K, D, T, w, O, f, th, Lf, sz, hi, hO, hP, hPM, hS, hl⟩ := id hst
    refine lv_iload hx hb dL_law_23 (lv_at hl 0 rfl) ?_
    refine lv_aload_n hx hb dL_law_25 rfl (lv_at hl 1 rfl) ?_
    refine va_slen hx hb hX hbl hbA hS dL_law_26 ?_
    refine lv_bipush (v := 7) hx hb dL_law_27 (by decide) ?_
    refine lv_isub hx hb dL_law_29 ?_
    refine lv_icmp_gt (tgt := 1191) hx hb dL_law_30 (by decide) (fun _ => ?_) (fun hq => absurd ((lp_cmp hL ht).mpr (by omega)) hq)
    refine lv_iconst (v := 1) hx hb dL_law_1191 (by decide) ?_
    refine va_forget (fun q hq => hS.2.2 q hq) ?_
    refine W.widen (k := 1047) (n := 9875) (by omega) (by omega) ?_
    exact lw_ret hx hb hr hlk dL_law_1192
  | succ k ih =>
    intro t hk ht H locs ls hst
    obtain ⟨K, D, T, w, O, f, th, Lf, sz, hi, hO, hP, hPM, hS, hl⟩ := id hst
    refine lv_iload hx hb dL_law_23 (lv_at hl 0 rfl) ?_
    refine lv_aload_n hx hb dL_law_25 rfl (lv_at hl 1 rfl) ?_
    refine va_slen hx hb hX hbl hbA hS dL_law_26 ?_
    refine lv_bipush (v := 7) hx hb dL_law_27 (by decide) ?_
    refine lv_isub hx hb dL_law_29 ?_
    refine lv_icmp_gt (tgt := 1191) hx hb dL_law_30 (by decide) (fun hq => ?_) (fun hq => ?_)
    · refine lv_iconst (v := 1) hx hb dL_law_1191 (by decide) ?_
      refine va_forget (fun q hq => hS.2.2 q hq) ?_
      refine W.widen (k := 1047) (n := 9875) (by omega) (by omega) ?_
      exact lw_ret hx hb hr hlk dL_law_1192
    have hc : 7 * t + 7 ≤ L := by
      rcases Nat.lt_or_ge L (7 * t + 7) with z | z
      · exact absurd ((lp_cmp hL ht).mpr z) hq
      · exact z
    have cont : ∀ (H : Heap) (locs : List Loc) (ls : Array Slot), LSt s b G aX CX aM CM oo Co t H locs ls → W p l e room_1 s m #[Value.ref b] below meth c H locs (11 + t + 1) (1611 + 6 * t + 6) (lw_Z below #[Value.ref b] s) (F0 m 1185 ls []) := by
      intro H locs ls hst
      obtain ⟨K, D, T, w, O, f, th, Lf, sz, hi, hO, hP, hPM, hS, hl⟩ := hst
      refine lv_iinc (k := 0) (v := nI (7 * (t + 1))) hx hb dL_law_1185 hl rfl (nI_add (7 * t) 7) (by decide) rfl (fun ls hl => ?_)
      refine lv_goto (tgt := 23) hx hb dL_law_1188 (by decide) ?_
      exact ih (t + 1) (by omega) (by omega) H locs ls ⟨K, D, T, w, O, f, th, Lf, sz, hi, hO, hP, hPM, hS, hl⟩
    refine lv_aload_n hx hb dL_law_33 rfl (lv_at hl 1 rfl) ?_
    refine lv_iload hx hb dL_law_34 (lv_at hl 0 rfl) ?_
    refine q_sld hx hb hX hbl hbA hS (7 * t) rfl (by omega) (by omega) dL_law_36 ?_
    refine lv_bipush (v := 15) hx hb dL_law_37 (by decide) ?_
    refine lv_iand hx hb dL_law_39 ?_
    refine q_topi (pk_and (xs (7 * t)) 4 (by decide)) ?_
    have hv : (xs (7 * t)).toBitVec.toNat % 2 ^ 4 < 16 := Nat.mod_lt _ (by decide)
    generalize (xs (7 * t)).toBitVec.toNat % 2 ^ 4 = v at hv ⊢
    match v, hv with
    | 0, _ => exact lv_tableIn (off := 76) (tgt := 116) hx hb dL_law_40 (by decide) (by decide) (by decide) (by decide) (st_put h (by omega) (by omega) hc hTr cont H locs ls hst)
    | 1, _ => exact lv_tableIn (off := 234) (tgt := 274) hx hb dL_law_40 (by decide) (by decide) (by decide) (by decide) (st_drop h (by omega) (by omega) hc hTr cont H locs ls hst)
    | 2, _ => exact lv_tableIn (off := 290) (tgt := 330) hx hb dL_law_40 (by decide) (by decide) (by decide) (by decide) (st_slide h (by omega) (by omega) hc hTr cont H locs ls hst)
    | 3, _ => exact lv_tableIn (off := 377) (tgt := 417) hx hb dL_law_40 (by decide) (by decide) (by decide) (by decide) (st_told h (by omega) (by omega) hc hTr cont H locs ls hst)
    | 4, _ => exact lv_tableIn (off := 444) (tgt := 484) hx hb dL_law_40 (by decide) (by decide) (by decide) (by decide) (st_at h (by omega) (by omega) hc hTr cont H locs ls hst)
    | 5, _ => exact lv_tableIn (off := 500) (tgt := 540) hx hb dL_law_40 (by decide) (by decide) (by decide) (by decide) (st_rank h (by omega) (by omega) hc hTr cont H locs ls hst)
    | 6, _ => exact lv_tableIn (off := 556) (tgt := 596) hx hb dL_law_40 (by decide) (by decide) (by decide) (by decide) (st_earliest h (by omega) (by omega) hc hTr cont H locs ls hst)
    | 7, _ => exact lv_tableIn (off := 644) (tgt := 684) hx hb dL_law_40 (by decide) (by decide) (by decide) (by decide) (st_between h (by omega) (by omega) hc hTr cont H locs ls hst)
    | 8, _ => exact lv_tableIn (off := 776) (tgt := 816) hx hb dL_law_40 (by decide) (by decide) (by decide) (by decide) (st_pick h (by omega) (by omega) hc hTr cont H locs ls hst)
    | 9, _ => exact lv_tableIn (off := 820) (tgt := 860) hx hb dL_law_40 (by decide) (by decide) (by decide) (by decide) (st_ahead h (by omega) (by omega) hc hTr cont H locs ls hst)
    | 10, _ => exact lv_tableIn (off := 875) (tgt := 915) hx hb dL_law_40 (by decide) (by decide) (by decide) (by decide) (st_weight h (by omega) (by omega) hc hTr cont H locs ls hst)
    | 11, _ => exact lv_tableIn (off := 932) (tgt := 972) hx hb dL_law_40 (by decide) (by decide) (by decide) (by decide) (st_half h (by omega) (by omega) hc hTr cont H locs ls hst)
    | 12, _ => exact lv_tableIn (off := 976) (tgt := 1016) hx hb dL_law_40 (by decide) (by decide) (by decide) (by decide) (st_nearest h (by omega) (by omega) hc hTr cont H locs ls hst)
    | 13, _ => exact lv_tableIn (off := 1019) (tgt := 1059) hx hb dL_law_40 (by decide) (by decide) (by decide) (by decide) (st_cut h (by omega) (by omega) hc hTr cont H locs ls hst)
    | 14, _ => exact lv_tableIn (off := 1120) (tgt := 1160) hx hb dL_law_40 (by decide) (by decide) (by decide) (by decide) (st_count h (by omega) (by omega) hc hTr cont H locs ls hst)
    | 15, _ => exact lv_tableOut (tgt := 1185) hx hb dL_law_40 (by decide) (by decide) (W.widen (Nat.le_succ _) (Nat.le_add_right _ _) (cont H locs ls hst))
    | v + 16, hv => exact absurd hv (by omega)
