/-! the law's beginning: two objects and a row of one long; then the loop -/
section LWS
variable {p : Program} {l : Launch} {e : Env} {R : Room} {s : State} {m : MethodId} {args : Array Value} {below : List Frame} {meth : Method} {c : Code} {H H0 : Heap} {locs : List Loc} {cells slots : Nat} {Q : State → Prop} {pc : Nat} {ls : Array Slot} {rest : List Value} {A : Nat → Prop}
theorem in_call {G : va_G} {h sz0 mc ms : Nat} {wf : (Nat → Nat) → (Nat → ClassId) → va_W} {tf : (Nat → ClassId) → List (ClassId × FieldType)} {av : Array Value} {st0 : List Value} (hr : va_Run p l e R s m args below meth c H locs cells slots mc ms (F0 m pc ls st0) rest (in_Q G h sz0 wf tf av) (fun q => q = h ∨ sz0 ≤ q)) (hS : va_S A H0 H locs) (hsub : ∀ q, (q = h ∨ sz0 ≤ q) → A q)
    (kk : ∀ (a : Nat → Nat) (C : Nat → ClassId) (H1 : Heap) (locs1 : List Loc), a 0 = h → va_P G vwCl (wf a C) H1 → va_K G vwCl (tf C) s → (∀ i j, i < 5 → j < 5 → a i = a j → i = j) → (∀ i, 0 < i → i < 5 → sz0 ≤ a i) → va_S A H0 H1 locs1 → H.size ≤ H1.size → (∀ q : Nat, q < H.size → ¬ (q = h ∨ sz0 ≤ q) → H1[q]? = H[q]?) → W p l e R s m args below meth c H1 locs1 (cells + mc) (slots + ms) Q (F0 m (pc + 3) ls rest)) :
    W p l e R s m args below meth c H locs cells slots Q (F0 m pc ls st0) := by
  intro T hT X
  obtain ⟨v', st₀, t, T', L, h0, X', hL, e1, e2, ⟨hv, ⟨a, C, ha, hP1, hK1, hap, hge⟩, hF⟩, st⟩ := hr T hT X
  cases hv
  have hvm : s.vm.Alike t.vm := by rw [← e2]; exact X'.warmed.alike
  have hF1 : H.size ≤ t.heap.size := by rw [← h0]; exact hF.1
  have hF2 : ∀ q : Nat, q < H.size → ¬ (q = h ∨ sz0 ≤ q) → t.heap[q]? = H[q]? := fun q hq hA => by rw [hF.2 q (by rw [h0]; exact hq) hA, h0]
  have hS1 : va_S A H0 t.heap (locs ++ L) := ⟨Nat.le_trans hS.1 hF1, fun q hq hA => by
      rw [hF2 q (Nat.lt_of_lt_of_le hq hS.1) (fun z => hA (hsub q z))]
      exact hS.2.1 q hq hA, fun q hq => by
      rcases List.mem_append.mp hq with h | h
      · exact hS.2.2 q h
      · exact hsub _ (hL q h)⟩
  obtain ⟨t2, a1, b1⟩ := kk a C t.heap (locs ++ L) ha hP1 (va_K.moved hvm.symm hK1) hap hge hS1 hF1 hF2 T' e1 X'
  exact ⟨t2, st t2 a1, b1⟩
end LWS
theorem tr_off {l : Launch} (hf : l.flags = flags0) : ∀ e : Env, l.admits e → e.platform.stackTraces = false := by
  intro e h
  have h1 : e.platform.stackTraces = l.stackTraces := congrArg (fun (q : Platform) => q.stackTraces) h.2.2.2.2.1
  rw [h1]
  unfold Launch.stackTraces
  rw [hf]
  decide +kernel
theorem ix_X {a : Nat → Nat} {C : Nat → ClassId} {K D : Nat → Int64} {Wt O : Nat → Int32} {n : Int32} {r : va_W} : ∀ i, i < 5 → ∃ e, (wX a C K D Wt O n ++ r)[i]? = some (a i, e) := by
  intro i hi
  match i, hi with
  | 0, _ => exact ⟨_, rfl⟩
  | 1, _ => exact ⟨_, rfl⟩
  | 2, _ => exact ⟨_, rfl⟩
  | 3, _ => exact ⟨_, rfl⟩
  | 4, _ => exact ⟨_, rfl⟩
theorem ix_M {a aM : Nat → Nat} {C CM : Nat → ClassId} {K D KM DM : Nat → Int64} {Wt O w : Nat → Int32} {n th : Int32} {T : Nat → Bool} {r : va_W} : ∀ i, i < 5 → ∃ e, ((wX a C K D Wt O n ++ wM aM CM T KM DM w th) ++ r)[5 + i]? = some (aM i, e) := by
  intro i hi
  match i, hi with
  | 0, _ => exact ⟨_, rfl⟩
  | 1, _ => exact ⟨_, rfl⟩
  | 2, _ => exact ⟨_, rfl⟩
  | 3, _ => exact ⟨_, rfl⟩
  | 4, _ => exact ⟨_, rfl⟩
theorem ix_wX {a : Nat → Nat} {C : Nat → ClassId} {K D : Nat → Int64} {Wt O : Nat → Int32} {n : Int32} {i : Nat} {q : Nat × va_E} (h : (wX a C K D Wt O n)[i]? = some q) : ∃ j, j < 5 ∧ q.1 = a j := by
  match i, h with
  | 0, h => cases h; exact ⟨0, by omega, rfl⟩
  | 1, h => cases h; exact ⟨1, by omega, rfl⟩
  | 2, h => cases h; exact ⟨2, by omega, rfl⟩
  | 3, h => cases h; exact ⟨3, by omega, rfl⟩
  | 4, h => cases h; exact ⟨4, by omega, rfl⟩
  | i + 5, h => simp at h
theorem ix_wM {a : Nat → Nat} {C : Nat → ClassId} {T : Nat → Bool} {K D : Nat → Int64} {w : Nat → Int32} {th : Int32} {i : Nat} {q : Nat × va_E} (h : (wM a C T K D w th)[i]? = some q) : ∃ j, j < 5 ∧ q.1 = a j := by
  match i, h with
  | 0, h => cases h; exact ⟨0, by omega, rfl⟩
  | 1, h => cases h; exact ⟨1, by omega, rfl⟩
  | 2, h => cases h; exact ⟨2, by omega, rfl⟩
  | 3, h => cases h; exact ⟨3, by omega, rfl⟩
  | 4, h => cases h; exact ⟨4, by omega, rfl⟩
  | i + 5, h => simp at h
set_option maxRecDepth 100000 in
theorem st_words : (∀ w ∈ tx_FL, w ∈ lw_tbl) ∧ Cond.laysStatic Bundle.tN "UNASSIGNED_STACK" Bundle.steD ∈ lw_tbl ∧ Cond.laysStatic Bundle.tN "SUPPRESSED_SENTINEL" Bundle.listD ∈ lw_tbl ∧ Cond.initialized Bundle.tN ∈ lw_tbl := by decide +kernel
set_option maxRecDepth 100000 in
theorem st_given : Cond.isRef (.static Bundle.tN "UNASSIGNED_STACK" Bundle.steD) ∈ flatC (Jvm.Cond.and given_1 narrow_1) ∧ Cond.isRef (.static Bundle.tN "SUPPRESSED_SENTINEL" Bundle.listD) ∈ flatC (Jvm.Cond.and given_1 narrow_1) ∧ Cond.not (.castable EIA ENS) ∈ flatC (Jvm.Cond.and given_1 narrow_1) := by decide +kernel
theorem st_G2 {s : State} {args : Array Value} (hts : ∀ w ∈ lw_tbl, w.before args s = true) (hg : (Jvm.Cond.and given_1 narrow_1).before args s = true) : tx_G2 (fun q => s.heap.size ≤ q) s s.heap ∧ va_Nc EIA ENS s := by
  obtain ⟨h1, h2, h3, h4⟩ := st_words
  obtain ⟨g1, g2, g3⟩ := st_given
  have hf := flat_of_before _ hg
  have hA : ∀ a : Nat, a < s.heap.size → ¬ (fun q => s.heap.size ≤ q) a := fun a ha z => Nat.not_lt.mpr z ha
  refine ⟨⟨⟨va_Zqof (hts _ h2) (hts _ h4) (hf _ g1) hA, tx_Pl_of (hts _ h2) hA⟩, ⟨va_Zqof (hts _ h3) (hts _ h4) (hf _ g2) hA, tx_Pl_of (hts _ h3) hA⟩, ?_⟩, va_Nc.of (hf _ g3)⟩
  intro w hw args'
  have q := hts w (h1 w hw)
  simp only [tx_FL, List.mem_cons, List.not_mem_nil, or_false] at hw
  rcases hw with rfl | rfl | rfl
  · exact tx_face (Vm.Alike.refl s.vm) rfl rfl q
  · exact tx_face (Vm.Alike.refl s.vm) rfl rfl q
  · exact tx_face (Vm.Alike.refl s.vm) rfl rfl q
theorem cwt_0 {w : Nat → Int32} : cwt (fun _ => false) w = fun _ => 0 := by
  funext n
  exact if_neg Bool.false_ne_true
set_option maxHeartbeats 4000000 in
set_option maxRecDepth 100000 in
theorem whole_start {p : Program} {e : Env} {s : State} {m : MethodId} {below : List Frame} {meth : Method} {c : Code} (l : Launch) (hTr : ∀ e : Env, l.admits e → e.platform.stackTraces = false) {b L : Nat} {xs : Nat → Int32} (hL : L ≤ 3584) (C0 : lw_At p s m meth c b L xs) : W p l e room_1 s m #[Value.ref b] below meth c s.heap [] 0 0 (lw_Z below #[Value.ref b] s) (entryFrame m ([Value.ref b] : List Value).toArray 8) := by
  obtain ⟨hx, hb, hr, hml, hown, hts, hX, hbl, hlk, hgv⟩ := C0
  have hb : c.code = cL_law := hb
  have hown : s.vm.findClass RL = some m.cls := hown
  have S : CallFix p m c cL_law 8 s #[Value.ref b] lw_tbl RL := ⟨hx, hb, hml, hown, hts⟩
  obtain ⟨hZ, hNc⟩ := st_G2 hts hgv
  have hin0 : ∀ w ∈ u_ws RX0 TX0 5, w ∈ lw_tbl := fun w h => tb_lw w (hinX0 w h)
  have hin1 : ∀ w ∈ u_ws RX1 TX1 5, w ∈ lw_tbl := fun w h => tb_lw w (hinX1 w h)
  obtain ⟨c0, i0, k0⟩ := u_known hts hin0 (hts _ (tb_lw _ w_inst_X0))
  obtain ⟨c1, i1, k1⟩ := u_known hts hin1 (hts _ (tb_lw _ w_inst_X1))
  obtain ⟨G, hG⟩ : ∃ G : va_G, va_K G vwCl [] s := ⟨(fun c => match c with | 0 => c0 | _ => c1, fun c => match c with | 0 => i0 | _ => i1), fun c q hq => by
    match c, hq with
    | 0, hq => cases hq; exact k0
    | 1, hq => cases hq; exact k1
    | c + 2, hq => simp at hq, fun k q hq => by simp at hq⟩
  have body : ∀ ls : Array Slot, lv_has ls 8 [(0, .ref b)] → W p l e room_1 s m #[Value.ref b] below meth c s.heap [] 0 0 (lw_Z below #[Value.ref b] s) (F0 m 0 ls []) := by
    intro ls hl
    have hP : va_P G vwCl [] s.heap := fun k q h => by simp at h
    have hD : va_D (fun q => s.heap.size ≤ q) [] := ⟨fun i j p q h => by simp at h, fun k q h => by simp at h⟩
    have hS : va_S (fun q => s.heap.size ≤ q) s.heap s.heap [] := va_S.rf
    have hA : ∀ q, s.heap.size ≤ q → (fun q => s.heap.size ≤ q) q := fun q z => z
    have hfs : ∀ j, j < 5 → defaultValue (tyX0 j) = vp_V [.null, .null, .null, .null, .int 0] j := fun j hj => by
      match j, hj with
      | 0, _ => rfl
      | 1, _ => rfl
      | 2, _ => rfl
      | 3, _ => rfl
      | 4, _ => rfl
    have hfs1 : ∀ j, j < 5 → defaultValue (tyX1 j) = vp_V [.null, .null, .null, .null, .int 0] j := fun j hj => by
      match j, hj with
      | 0, _ => rfl
      | 1, _ => rfl
      | 2, _ => rfl
      | 3, _ => rfl
      | 4, _ => rfl
    refine va_new (ci := 0) (fs := [.null, .null, .null, .null, .int 0]) (C := RX0) (T := TX0) (N := 5) hx hb hts hin0 tyX0 tyX0_ok hown (hts _ (tb_lw _ w_cl_L_8)) (hts _ (tb_lw _ w_inst_X0)) (hts _ (tb_lw _ w_in_X0)) hG hP hD hS hA rfl hfs (Nat.le_of_ble_eq_true rfl) (Nat.le_of_ble_eq_true rfl) dL_law_0 (fun q1 H hP hD hS => ?_)
    have hP : va_P G vwCl [(q1, .inr (0, [.null, .null, .null, .null, .int 0]))] H := hP
    have hq1 : s.heap.size ≤ q1 := hD.2 0 _ rfl
    have hz1 : s.heap.size ≤ H.size := hS.1
    refine lv_dup hx hb dL_law_3 rfl ?_
    refine in_call (va_runI (As := []) (rest := [.ref q1]) S (cx_init l G q1 H.size) (cwI 0 hts (gdC tb_lw w_co_X0_init) rfl rfl rfl (hts _ (tb_lw _ w_in_X0)) (hts _ (tb_lw _ w_ml_L_58)) (hts _ (tb_lw _ w_im_X0_init)) rfl (by decide +kernel) ⟨Nat.le_of_ble_eq_true rfl, Nat.le_of_ble_eq_true rfl⟩) ⟨fun a U g mk q => by obtain ⟨q0, q1, qP, qK⟩ := q; exact ⟨q0, q1, qP, va_K.moved (u := U) (U := U.calling g mk a) (Vm.Alike.refl U.vm) qK⟩, fun U hU hW => ⟨rfl, by rw [hU], by rw [hU]; exact hP, va_K.moved hW.alike hG⟩⟩ rfl rfl hl.1 rfl (lv_room (Nat.le_of_ble_eq_true rfl)) dL_law_4 ⟨Nat.le_of_ble_eq_true rfl, Nat.le_of_ble_eq_true rfl⟩) hS (fun q z => by
      rcases z with z | z
      · rw [z]; exact hq1
      · exact Nat.le_trans hz1 z) (fun aX CX H1 locs ha hPX hKX hap hge hS hz hfr => ?_)
    have hgeX : ∀ i, i < 5 → s.heap.size ≤ aX i := fun i hi => by
      rcases Nat.eq_zero_or_pos i with z | z
      · rw [z, ha]; exact hq1
      · exact Nat.le_trans hz1 (hge i z hi)
    subst ha
    refine lv_astore_n hx hb dL_law_7 rfl hl (by decide) rfl (fun ls hl => ?_)
    have hl : lv_has ls 8 [(1, .ref (aX 0)), (0, .ref b)] := hl
    have hD := dX (A := fun q => s.heap.size ≤ q) hap hgeX CX (fun _ => 0) (fun _ => 0) (fun _ => 0) (fun _ => 0) (nI 0)
    refine va_new (ci := 1) (fs := [.null, .null, .null, .null, .int 0]) (C := RX1) (T := TX1) (N := 5) hx hb hts hin1 tyX1 tyX1_ok hown (hts _ (tb_lw _ w_cl_L_59)) (hts _ (tb_lw _ w_inst_X1)) (hts _ (tb_lw _ w_in_X1)) hKX hPX hD hS hA rfl hfs1 (Nat.le_of_ble_eq_true rfl) (Nat.le_of_ble_eq_true rfl) dL_law_8 (fun q2 H hP hD hS => ?_)
    have hP2 : va_P G vwCl [(q2, .inr (1, [.null, .null, .null, .null, .int 0]))] H := hP.sub [5] rfl
    have hPX := hP.sub (ws' := wX aX CX (fun _ => 0) (fun _ => 0) (fun _ => 0) (fun _ => 0) (nI 0)) [0, 1, 2, 3, 4] rfl
    have hq2 : s.heap.size ≤ q2 := hD.2 5 _ rfl
    have hne : ∀ i, i < 5 → aX i ≠ q2 := fun i hi z => by
      obtain ⟨e1, h1⟩ := ix_X (a := aX) (C := CX) (K := fun _ => 0) (D := fun _ => 0) (Wt := fun _ => 0) (O := fun _ => 0) (n := nI 0) (r := [(q2, .inr (1, [.null, .null, .null, .null, .int 0]))]) i hi
      have h2 := hD.1 i 5 _ _ h1 rfl z
      omega
    have hltX : ∀ i, i < 5 → aX i < H.size := fun i hi => by
      obtain ⟨e1, h1⟩ := ix_X (a := aX) (C := CX) (K := fun _ => 0) (D := fun _ => 0) (Wt := fun _ => 0) (O := fun _ => 0) (n := nI 0) (r := [(q2, .inr (1, [.null, .null, .null, .null, .int 0]))]) i hi
      exact (hP i _ h1).lt
    have hz2 : s.heap.size ≤ H.size := hS.1
    refine lv_dup hx hb dL_law_11 rfl ?_
    refine in_call (va_runI (As := []) (rest := [.ref q2]) S (cm_init l G q2 H.size) (cwI 0 hts (gdC tb_lw w_co_X1_init) rfl rfl rfl (hts _ (tb_lw _ w_in_X1)) (hts _ (tb_lw _ w_ml_L_61)) (hts _ (tb_lw _ w_im_X1_init)) rfl (by decide +kernel) ⟨Nat.le_of_ble_eq_true rfl, Nat.le_of_ble_eq_true rfl⟩) ⟨fun a U g mk q => by obtain ⟨q0, q1, qP, qK⟩ := q; exact ⟨q0, q1, qP, va_K.moved (u := U) (U := U.calling g mk a) (Vm.Alike.refl U.vm) qK⟩, fun U hU hW => ⟨rfl, by rw [hU], by rw [hU]; exact hP2, va_K.moved hW.alike hG⟩⟩ rfl rfl hl.1 rfl (lv_room (Nat.le_of_ble_eq_true rfl)) dL_law_12 ⟨Nat.le_of_ble_eq_true rfl, Nat.le_of_ble_eq_true rfl⟩) hS (fun q z => by
      rcases z with z | z
      · rw [z]; exact hq2
      · exact Nat.le_trans hz2 z) (fun aM CM H1 locs ha hPM hKM hapM hgeM hS hz hfr => ?_)
    have hgeMM : ∀ i, i < 5 → s.heap.size ≤ aM i := fun i hi => by
      rcases Nat.eq_zero_or_pos i with z | z
      · rw [z, ha]; exact hq2
      · exact Nat.le_trans hz2 (hgeM i z hi)
    have hdisXM : ∀ i j, i < 5 → j < 5 → aX i ≠ aM j := fun i j hi hj z => by
      rcases Nat.eq_zero_or_pos j with y | y
      · rw [y, ha] at z
        exact hne i hi z
      · have h1 := hgeM j y hj
        have h2 := hltX i hi
        omega
    have hPX : va_P G vwCl (wX aX CX (fun _ => 0) (fun _ => 0) (fun _ => 0) (fun _ => 0) (nI 0)) H1 := va_P.kept hPX (fun k q hk => by
      obtain ⟨j, hj, ej⟩ := ix_wX hk
      rw [ej]
      refine hfr _ (hltX j hj) (fun z => ?_)
      rcases z with z | z
      · exact hne j hj z
      · have := hltX j hj
        omega)
    subst ha
    refine lv_astore_n hx hb dL_law_15 rfl hl (by decide) rfl (fun ls hl => ?_)
    have hl : lv_has ls 8 [(2, .ref (aM 0)), (1, .ref (aX 0)), (0, .ref b)] := hl
    refine lv_iconst (v := 1) hx hb dL_law_16 (by decide) ?_
    have hDX := dX (A := fun q => s.heap.size ≤ q) hap hgeX CX (fun _ => 0) (fun _ => 0) (fun _ => 0) (fun _ => 0) (nI 0)
    have hDM := dM (A := fun q => s.heap.size ≤ q) hapM hgeMM CM (fun _ => false) (fun _ => 0) (fun _ => 0) (fun _ => 0) 0
    have hD2 := hDX.app hDM (fun i j p q h1 h2 z => by
      obtain ⟨i', hi', e1⟩ := ix_wX h1
      obtain ⟨j', hj', e2⟩ := ix_wM h2
      exact hdisXM i' j' hi' hj' (by rw [← e1, ← e2]; exact z))
    refine va_newa (atype := .long) (ty := .long) (N' := 1) (a0 := (1, .inr (.inl (fun _ => 0)))) hx hb (hts _ (tb_lw _ w_ac_long)) rfl hKX (hPX.app hPM) hD2 hS hA (fun _ => rfl) (by decide) (by decide) (by decide) (Nat.le_of_ble_eq_true rfl) (Nat.le_of_ble_eq_true rfl) dL_law_17 (fun oo Co H hKX hP hD hS => ?_)
    have hPXo : va_P G vwCl (wXo aX CX (fun _ => 0) (fun _ => 0) (fun _ => 0) (fun _ => 0) (nI 0) oo Co (fun _ => 0)) H := hP.sub [0, 1, 2, 3, 4, 10] rfl
    have hPM : va_P G vwCl (wM aM CM (fun _ => false) (fun _ => 0) (fun _ => 0) (fun _ => 0) 0) H := hP.sub [5, 6, 7, 8, 9] rfl
    have hKX : va_K G vwCl (tXo CX Co) s := hKX
    have hoo : s.heap.size ≤ oo := hD.2 10 _ rfl
    have hXo : ∀ i, i < 5 → aX i ≠ oo := fun i hi z => by
      obtain ⟨e1, h1⟩ := ix_X (a := aX) (C := CX) (K := fun _ => 0) (D := fun _ => 0) (Wt := fun _ => 0) (O := fun _ => 0) (n := nI 0) (r := wM aM CM (fun _ => false) (fun _ => 0) (fun _ => 0) (fun _ => 0) 0 ++ [(oo, .inl (Co, 1, .inr (.inl (fun _ => 0))))]) i hi
      have h2 := hD.1 i 10 (aX i, e1) (oo, .inl (Co, 1, .inr (.inl (fun _ => 0)))) (by rw [List.append_assoc]; exact h1) rfl z
      omega
    have hMo : ∀ i, i < 5 → aM i ≠ oo := fun i hi z => by
      obtain ⟨e1, h1⟩ := ix_M (a := aX) (C := CX) (K := fun _ => 0) (D := fun _ => 0) (Wt := fun _ => 0) (O := fun _ => 0) (n := nI 0) (aM := aM) (CM := CM) (T := fun _ => false) (KM := fun _ => 0) (DM := fun _ => 0) (w := fun _ => 0) (th := 0) (r := [(oo, .inl (Co, 1, .inr (.inl (fun _ => 0))))]) i hi
      have h2 := hD.1 (5 + i) 10 _ _ h1 rfl z
      omega
    refine lv_astore_n hx hb dL_law_19 rfl hl (by decide) rfl (fun ls hl => ?_)
    have hl : lv_has ls 8 [(3, .ref oo), (2, .ref (aM 0)), (1, .ref (aX 0)), (0, .ref b)] := hl
    refine lv_iconst (v := 0) hx hb dL_law_20 (by decide) ?_
    refine lv_istore hx hb dL_law_21 hl (by decide) rfl (fun ls hl => ?_)
    have hl : lv_has ls 8 [(4, .int 0), (3, .ref oo), (2, .ref (aM 0)), (1, .ref (aX 0)), (0, .ref b)] := hl
    have h : LC p s m meth c b L xs G aX CX aM CM oo Co := ⟨⟨S, hr, hlk, hX, hbl, hL⟩, ⟨hKX, hKM, hZ, hNc⟩, ⟨hap, hXo⟩, hapM, fun q z y => by
        obtain ⟨j, hj, ej⟩ := y
        rcases z with ⟨i, hi, ei⟩ | z
        · exact hdisXM i j hi hj (ei.symm.trans ej)
        · exact hMo j hj (ej.symm.trans z), fun q z => by
        rcases z with ⟨i, hi, ei⟩ | z
        · rw [ei]; exact hgeX i hi
        · rw [z]; exact hoo, fun q z => by
        obtain ⟨i, hi, ei⟩ := z
        rw [ei]; exact hgeMM i hi⟩
    have hlp := lw_loop (below := below) (e := e) h hTr 513 0 (by omega) (by omega) H _ ls ⟨fun _ => 0, fun _ => 0, fun _ => false, fun _ => 0, fun _ => 0, fun _ => 0, 0, fun _ => 0, 0, ft_iv_0 _ _ _, fun i hi => by omega, by rw [cwt_0]; exact hPXo, hPM, hS, lv_sub hl [0, 4, 3, 2, 1] rfl⟩
    exact hlp
  rw [lg_entry_eq]
  exact body _ (lv_entry [Value.ref b] (Nat.le_of_ble_eq_true rfl))
