/-! the constructors -/
theorem w_im_obj : (Cond.instanceMethod objectInit) ∈ TB := tbm 16 (by decide +kernel) (by decide +kernel)
theorem w_co_obj : (Cond.code objectInit ⟨#[0xb1]⟩ 1 none) ∈ TB := tbm 17 (by decide +kernel) (by decide +kernel)
theorem va_D_one {A : Nat → Prop} {a : Nat} {e : va_E} (h : A a) : va_D A [(a, e)] := by
  refine ⟨fun i j p q hp hq _ => ?_, fun k q hq => ?_⟩
  · have h1 := (List.getElem?_eq_some_iff.mp hp).1
    have h2 := (List.getElem?_eq_some_iff.mp hq).1
    simp only [List.length_cons, List.length_nil] at h1 h2
    omega
  · have h1 := (List.getElem?_eq_some_iff.mp hq).1
    simp only [List.length_cons, List.length_nil] at h1
    have h2 : k = 0 := by omega
    subst h2
    cases hq
    exact h
theorem q_openI {l : Launch} {y : MethodName} {ws ws' : List Cond} {rm : Room} {cc : ByteArray} {maxL : Nat} {ret : Option FieldType} {av : List Value} {B : State → Prop} {Qc : Array Value → State → Outcome → State → Prop} {mc ms : Nat} {free : Addr → Prop}
    (hy : plainName y.cls = true) (hw : ws = Cond.code y cc maxL ret :: ws') (hlen : (lg_sl av).length ≤ maxL)
    (body : ∀ (p : Program) (e : Env) (s : State) (m : MethodId) (below : List Frame) (meth : Method) (c : Code) (ls : Array Slot), CallFix p m c cc maxL s av.toArray ws y.cls → meth.sig.returnType = ret → meth.locks = false → meth.name = y.name → B s → lv_has ls maxL (lv_args 0 av) →
      W p l e rm s m av.toArray below meth c s.heap [] 0 0 (MQ below Qc av.toArray s mc ms free) (F0 m 0 ls [])) : Met l y ws rm (va_Pc av B) Qc mc ms free := by
  refine Met.ofW (cc := cc) (maxL := maxL) (ret := ret) hy hw ?_
  intro p e s m args below meth c s₁ Bd hml hv
  obtain ⟨rfl, hB⟩ := hv
  rw [lg_entry_eq]
  exact body p e s m below meth c _ ⟨Bd.exec, Bd.bytes, hml, findClass_of_methodNamed Bd.named, atoms_spec (ws := ws) Bd.pre⟩ Bd.returns Bd.notSynchronized (name_of_methodNamed Bd.named Bd.method).1 hB (lv_entry av hlen)
abbrev ad5 (h q1 q2 q3 q4 : Nat) : Nat → Nat := fun i => match i with
  | 0 => h
  | 1 => q1
  | 2 => q2
  | 3 => q3
  | _ => q4
/-- behind a constructor: five cells, apart, all but the first new; nothing else changed -/
def in_Q (G : va_G) (h sz0 : Nat) (wf : (Nat → Nat) → (Nat → ClassId) → va_W) (tf : (Nat → ClassId) → List (ClassId × FieldType)) : Array Value → State → Outcome → State → Prop := fun _ st oc t =>
  oc = .returned none ∧ (∃ (a : Nat → Nat) (C : Nat → ClassId), a 0 = h ∧ va_P G vwCl (wf a C) t.heap ∧ va_K G vwCl (tf C) t ∧ (∀ i j, i < 5 → j < 5 → a i = a j → i = j) ∧ (∀ i, 0 < i → i < 5 → sz0 ≤ a i)) ∧ va_F (fun q => q = h ∨ sz0 ≤ q) st t
theorem ad5_apart {A : Nat → Prop} {h q1 q2 q3 q4 : Nat} {e0 e1 e2 e3 e4 : va_E} (hD : va_D A [(h, e0), (q1, e1), (q2, e2), (q3, e3), (q4, e4)]) : ∀ i j, i < 5 → j < 5 → ad5 h q1 q2 q3 q4 i = ad5 h q1 q2 q3 q4 j → i = j := by
  have key : ∀ i, i < 5 → ∃ e, [(h, e0), (q1, e1), (q2, e2), (q3, e3), (q4, e4)][i]? = some (ad5 h q1 q2 q3 q4 i, e) := by
    intro i hi
    match i, hi with
    | 0, _ => exact ⟨e0, rfl⟩
    | 1, _ => exact ⟨e1, rfl⟩
    | 2, _ => exact ⟨e2, rfl⟩
    | 3, _ => exact ⟨e3, rfl⟩
    | 4, _ => exact ⟨e4, rfl⟩
  intro i j hi hj e
  obtain ⟨x, hx⟩ := key i hi
  obtain ⟨y, hy⟩ := key j hj
  exact hD.1 i j _ _ hx hy e
theorem ad5_new {h sz0 q1 q2 q3 q4 : Nat} {e0 e1 e2 e3 e4 : va_E} (hD : va_D (fun q => q = h ∨ sz0 ≤ q) [(h, e0), (q1, e1), (q2, e2), (q3, e3), (q4, e4)]) : ∀ i, 0 < i → i < 5 → sz0 ≤ ad5 h q1 q2 q3 q4 i := by
  have ap := ad5_apart hD
  intro i h0 hi
  have hm : ad5 h q1 q2 q3 q4 i = h ∨ sz0 ≤ ad5 h q1 q2 q3 q4 i := by
    match i, hi with
    | 1, _ => exact hD.2 1 _ rfl
    | 2, _ => exact hD.2 2 _ rfl
    | 3, _ => exact hD.2 3 _ rfl
    | 4, _ => exact hD.2 4 _ rfl
  rcases hm with e | e
  · have := ap i 0 hi (by omega) e
    omega
  · exact e
set_option maxHeartbeats 4000000 in
set_option maxRecDepth 100000 in
theorem cx_init (l : Launch) (G : va_G) (h sz0 : Nat) : Met l yX0_init wsX0_init { frames := 1, cells := 4, slots := 800, locals := 40 } (va_Pc [.ref h] (fun U => U.heap.size = sz0 ∧ va_P G vwCl [(h, .inr (0, [.null, .null, .null, .null, .int 0]))] U.heap ∧ va_K G vwCl [] U)) (in_Q G h sz0 (fun a C => wX a C (fun _ => 0) (fun _ => 0) (fun _ => 0) (fun _ => 0) (nI 0)) tX) 4 800 (fun q => q = h ∨ sz0 ≤ q) := by
  refine q_openI (cc := cX0_init) (maxL := 1) (ret := none) (by decide) rfl (Nat.le_of_ble_eq_true rfl) ?_
  intro p e s m below meth c ls S hr hlk hnm hB hl
  obtain ⟨hx, hb, hml, hown, hts⟩ := id S
  obtain ⟨hsz, hP, hK⟩ := hB
  subst hsz
  have hin : ∀ w ∈ u_ws RX0 TX0 5, w ∈ wsX0_init := fun w h => tb_cons w (hinX0 w h)
  have hS : va_S (fun q => q = h ∨ s.heap.size ≤ q) s.heap s.heap [] := va_S.rf
  have hA : ∀ q, s.heap.size ≤ q → (fun q => q = h ∨ s.heap.size ≤ q) q := fun q z => Or.inr z
  have hD : va_D (fun q => q = h ∨ s.heap.size ≤ q) [(h, .inr (0, [.null, .null, .null, .null, .int 0]))] := va_D_one (Or.inl rfl)
  have hl : lv_has ls 1 [(0, .ref h)] := hl
  refine lv_aload_n hx hb dX0_init_0 rfl (lv_at hl 0 rfl) ?_
  refine W.objInit hx hb hown (hts _ (tb_cons _ w_ml_X0_1)) (hts _ (tb_cons _ w_im_obj)) (hts _ (tb_cons _ w_co_obj)) rfl (by rw [hml]; exact hl.1) rfl dX0_init_1 (Nat.le_of_ble_eq_true rfl) (Nat.le_of_ble_eq_true rfl) ?_
  refine W.eq (g2 := F0 m 4 ls []) rfl ?_
  refine lv_aload_n hx hb dX0_init_4 rfl (lv_at hl 0 rfl) ?_
  refine lv_sipush (v := 200) hx hb dX0_init_5 (by decide) ?_
  refine va_newa (atype := .long) (ty := .long) (N' := 200) (a0 := (200, .inr (.inl (fun _ => 0)))) hx hb (hts _ (tb_cons _ w_ac_long)) rfl hK hP hD hS hA (fun _ => rfl) (by decide) (by decide) (by decide) (Nat.le_of_ble_eq_true rfl) (Nat.le_of_ble_eq_true rfl) dX0_init_8 (fun q1 C1 H hK hP hD hS => ?_)
  have hP : va_P G vwCl [(h, .inr (0, [.null, .null, .null, .null, .int 0])), (q1, .inl (C1, 200, .inr (.inl (fun _ => 0))))] H := hP
  have hD : va_D (fun q => q = h ∨ s.heap.size ≤ q) [(h, .inr (0, [.null, .null, .null, .null, .int 0])), (q1, .inl (C1, 200, .inr (.inl (fun _ => 0))))] := hD
  have hK : va_K G vwCl [(C1, .long)] s := hK
  refine va_putF (D := G) (ci := 0) (v := .ref q1) (ty := .array .long) (C := RX0) (T := TX0) (N := 5) hx hb hts hin tyX0 tyX0_ok nmX0 hown hK hP hD hS 0 rfl rfl 0 (by decide) (hts _ (tb_cons _ w_fl_X0_9)) (fun _ h9 => h9) rfl hnm rfl (by decide +kernel) rfl rfl (Nat.le_of_ble_eq_true rfl) dX0_init_10 (fun H locs hP hD hS => ?_)
  have hP : va_P G vwCl [(h, .inr (0, [.ref q1, .null, .null, .null, .int 0])), (q1, .inl (C1, 200, .inr (.inl (fun _ => 0))))] H := hP
  have hD : va_D (fun q => q = h ∨ s.heap.size ≤ q) [(h, .inr (0, [.ref q1, .null, .null, .null, .int 0])), (q1, .inl (C1, 200, .inr (.inl (fun _ => 0))))] := hD
  refine lv_aload_n hx hb dX0_init_13 rfl (lv_at hl 0 rfl) ?_
  refine lv_sipush (v := 200) hx hb dX0_init_14 (by decide) ?_
  refine va_newa (atype := .long) (ty := .long) (N' := 200) (a0 := (200, .inr (.inl (fun _ => 0)))) hx hb (hts _ (tb_cons _ w_ac_long)) rfl hK hP hD hS hA (fun _ => rfl) (by decide) (by decide) (by decide) (Nat.le_of_ble_eq_true rfl) (Nat.le_of_ble_eq_true rfl) dX0_init_17 (fun q2 C2 H hK hP hD hS => ?_)
  have hP : va_P G vwCl [(h, .inr (0, [.ref q1, .null, .null, .null, .int 0])), (q1, .inl (C1, 200, .inr (.inl (fun _ => 0)))), (q2, .inl (C2, 200, .inr (.inl (fun _ => 0))))] H := hP
  have hD : va_D (fun q => q = h ∨ s.heap.size ≤ q) [(h, .inr (0, [.ref q1, .null, .null, .null, .int 0])), (q1, .inl (C1, 200, .inr (.inl (fun _ => 0)))), (q2, .inl (C2, 200, .inr (.inl (fun _ => 0))))] := hD
  have hK : va_K G vwCl [(C1, .long), (C2, .long)] s := hK
  refine va_putF (D := G) (ci := 0) (v := .ref q2) (ty := .array .long) (C := RX0) (T := TX0) (N := 5) hx hb hts hin tyX0 tyX0_ok nmX0 hown hK hP hD hS 0 rfl rfl 1 (by decide) (hts _ (tb_cons _ w_fl_X0_13)) (fun _ h9 => h9) rfl hnm rfl (by decide +kernel) rfl rfl (Nat.le_of_ble_eq_true rfl) dX0_init_19 (fun H locs hP hD hS => ?_)
  have hP : va_P G vwCl [(h, .inr (0, [.ref q1, .ref q2, .null, .null, .int 0])), (q1, .inl (C1, 200, .inr (.inl (fun _ => 0)))), (q2, .inl (C2, 200, .inr (.inl (fun _ => 0))))] H := hP
  have hD : va_D (fun q => q = h ∨ s.heap.size ≤ q) [(h, .inr (0, [.ref q1, .ref q2, .null, .null, .int 0])), (q1, .inl (C1, 200, .inr (.inl (fun _ => 0)))), (q2, .inl (C2, 200, .inr (.inl (fun _ => 0))))] := hD
  refine lv_aload_n hx hb dX0_init_22 rfl (lv_at hl 0 rfl) ?_
  refine lv_sipush (v := 200) hx hb dX0_init_23 (by decide) ?_
  refine va_newa (atype := .int) (ty := .int) (N' := 200) (a0 := (200, .inl (fun _ => 0))) hx hb (hts _ (tb_cons _ w_ac_int)) rfl hK hP hD hS hA (fun _ => rfl) (by decide) (by decide) (by decide) (Nat.le_of_ble_eq_true rfl) (Nat.le_of_ble_eq_true rfl) dX0_init_26 (fun q3 C3 H hK hP hD hS => ?_)
  have hP : va_P G vwCl [(h, .inr (0, [.ref q1, .ref q2, .null, .null, .int 0])), (q1, .inl (C1, 200, .inr (.inl (fun _ => 0)))), (q2, .inl (C2, 200, .inr (.inl (fun _ => 0)))), (q3, .inl (C3, 200, .inl (fun _ => 0)))] H := hP
  have hD : va_D (fun q => q = h ∨ s.heap.size ≤ q) [(h, .inr (0, [.ref q1, .ref q2, .null, .null, .int 0])), (q1, .inl (C1, 200, .inr (.inl (fun _ => 0)))), (q2, .inl (C2, 200, .inr (.inl (fun _ => 0)))), (q3, .inl (C3, 200, .inl (fun _ => 0)))] := hD
  have hK : va_K G vwCl [(C1, .long), (C2, .long), (C3, .int)] s := hK
  refine va_putF (D := G) (ci := 0) (v := .ref q3) (ty := .array .int) (C := RX0) (T := TX0) (N := 5) hx hb hts hin tyX0 tyX0_ok nmX0 hown hK hP hD hS 0 rfl rfl 2 (by decide) (hts _ (tb_cons _ w_fl_X0_16)) (fun _ h9 => h9) rfl hnm rfl (by decide +kernel) rfl rfl (Nat.le_of_ble_eq_true rfl) dX0_init_28 (fun H locs hP hD hS => ?_)
  have hP : va_P G vwCl [(h, .inr (0, [.ref q1, .ref q2, .ref q3, .null, .int 0])), (q1, .inl (C1, 200, .inr (.inl (fun _ => 0)))), (q2, .inl (C2, 200, .inr (.inl (fun _ => 0)))), (q3, .inl (C3, 200, .inl (fun _ => 0)))] H := hP
  have hD : va_D (fun q => q = h ∨ s.heap.size ≤ q) [(h, .inr (0, [.ref q1, .ref q2, .ref q3, .null, .int 0])), (q1, .inl (C1, 200, .inr (.inl (fun _ => 0)))), (q2, .inl (C2, 200, .inr (.inl (fun _ => 0)))), (q3, .inl (C3, 200, .inl (fun _ => 0)))] := hD
  refine lv_aload_n hx hb dX0_init_31 rfl (lv_at hl 0 rfl) ?_
  refine lv_sipush (v := 200) hx hb dX0_init_32 (by decide) ?_
  refine va_newa (atype := .int) (ty := .int) (N' := 200) (a0 := (200, .inl (fun _ => 0))) hx hb (hts _ (tb_cons _ w_ac_int)) rfl hK hP hD hS hA (fun _ => rfl) (by decide) (by decide) (by decide) (Nat.le_of_ble_eq_true rfl) (Nat.le_of_ble_eq_true rfl) dX0_init_35 (fun q4 C4 H hK hP hD hS => ?_)
  have hP : va_P G vwCl [(h, .inr (0, [.ref q1, .ref q2, .ref q3, .null, .int 0])), (q1, .inl (C1, 200, .inr (.inl (fun _ => 0)))), (q2, .inl (C2, 200, .inr (.inl (fun _ => 0)))), (q3, .inl (C3, 200, .inl (fun _ => 0))), (q4, .inl (C4, 200, .inl (fun _ => 0)))] H := hP
  have hD : va_D (fun q => q = h ∨ s.heap.size ≤ q) [(h, .inr (0, [.ref q1, .ref q2, .ref q3, .null, .int 0])), (q1, .inl (C1, 200, .inr (.inl (fun _ => 0)))), (q2, .inl (C2, 200, .inr (.inl (fun _ => 0)))), (q3, .inl (C3, 200, .inl (fun _ => 0))), (q4, .inl (C4, 200, .inl (fun _ => 0)))] := hD
  have hK : va_K G vwCl [(C1, .long), (C2, .long), (C3, .int), (C4, .int)] s := hK
  refine va_putF (D := G) (ci := 0) (v := .ref q4) (ty := .array .int) (C := RX0) (T := TX0) (N := 5) hx hb hts hin tyX0 tyX0_ok nmX0 hown hK hP hD hS 0 rfl rfl 3 (by decide) (hts _ (tb_cons _ w_fl_X0_20)) (fun _ h9 => h9) rfl hnm rfl (by decide +kernel) rfl rfl (Nat.le_of_ble_eq_true rfl) dX0_init_37 (fun H locs hP hD hS => ?_)
  have hP : va_P G vwCl [(h, .inr (0, [.ref q1, .ref q2, .ref q3, .ref q4, .int 0])), (q1, .inl (C1, 200, .inr (.inl (fun _ => 0)))), (q2, .inl (C2, 200, .inr (.inl (fun _ => 0)))), (q3, .inl (C3, 200, .inl (fun _ => 0))), (q4, .inl (C4, 200, .inl (fun _ => 0)))] H := hP
  have hD : va_D (fun q => q = h ∨ s.heap.size ≤ q) [(h, .inr (0, [.ref q1, .ref q2, .ref q3, .ref q4, .int 0])), (q1, .inl (C1, 200, .inr (.inl (fun _ => 0)))), (q2, .inl (C2, 200, .inr (.inl (fun _ => 0)))), (q3, .inl (C3, 200, .inl (fun _ => 0))), (q4, .inl (C4, 200, .inl (fun _ => 0)))] := hD
  refine lv_aload_n hx hb dX0_init_40 rfl (lv_at hl 0 rfl) ?_
  refine lv_iconst (v := 0) hx hb dX0_init_41 (by decide) ?_
  refine va_put (D := G) (ci := 0) (v := .int 0) (ty := .int) (C := RX0) (T := TX0) (N := 5) hx hb hts hin tyX0 tyX0_ok nmX0 hown hK hP hD hS 0 rfl rfl 4 (by decide) (hts _ (tb_cons _ w_fl_X0_23)) (fun _ h9 => h9) rfl (by decide +kernel) rfl rfl (Nat.le_of_ble_eq_true rfl) dX0_init_42 (fun H locs hP hD hS => ?_)
  have hP : va_P G vwCl [(h, .inr (0, [.ref q1, .ref q2, .ref q3, .ref q4, .int 0])), (q1, .inl (C1, 200, .inr (.inl (fun _ => 0)))), (q2, .inl (C2, 200, .inr (.inl (fun _ => 0)))), (q3, .inl (C3, 200, .inl (fun _ => 0))), (q4, .inl (C4, 200, .inl (fun _ => 0)))] H := hP
  have hD : va_D (fun q => q = h ∨ s.heap.size ≤ q) [(h, .inr (0, [.ref q1, .ref q2, .ref q3, .ref q4, .int 0])), (q1, .inl (C1, 200, .inr (.inl (fun _ => 0)))), (q2, .inl (C2, 200, .inr (.inl (fun _ => 0)))), (q3, .inl (C3, 200, .inl (fun _ => 0))), (q4, .inl (C4, 200, .inl (fun _ => 0)))] := hD
  exact W.vret hx hb hr (fun t ht hW => ⟨rfl, ⟨ad5 h q1 q2 q3 q4, ad5 C1 C1 C2 C3 C4, rfl, by rw [ht]; exact hP, va_K.moved hW.alike hK, ad5_apart hD, ad5_new hD⟩, hS.F ht⟩) hS.2.2 dX0_init_45
set_option maxHeartbeats 4000000 in
set_option maxRecDepth 100000 in
theorem cm_init (l : Launch) (G : va_G) (h sz0 : Nat) : Met l yX1_init wsX1_init { frames := 1, cells := 4, slots := 800, locals := 40 } (va_Pc [.ref h] (fun U => U.heap.size = sz0 ∧ va_P G vwCl [(h, .inr (1, [.null, .null, .null, .null, .int 0]))] U.heap ∧ va_K G vwCl [] U)) (in_Q G h sz0 (fun a C => wM a C (fun _ => false) (fun _ => 0) (fun _ => 0) (fun _ => 0) 0) tM) 4 800 (fun q => q = h ∨ sz0 ≤ q) := by
  refine q_openI (cc := cX1_init) (maxL := 1) (ret := none) (by decide) rfl (Nat.le_of_ble_eq_true rfl) ?_
  intro p e s m below meth c ls S hr hlk hnm hB hl
  obtain ⟨hx, hb, hml, hown, hts⟩ := id S
  obtain ⟨hsz, hP, hK⟩ := hB
  subst hsz
  have hin : ∀ w ∈ u_ws RX1 TX1 5, w ∈ wsX1_init := fun w h => tb_cons w (hinX1 w h)
  have hS : va_S (fun q => q = h ∨ s.heap.size ≤ q) s.heap s.heap [] := va_S.rf
  have hA : ∀ q, s.heap.size ≤ q → (fun q => q = h ∨ s.heap.size ≤ q) q := fun q z => Or.inr z
  have hD : va_D (fun q => q = h ∨ s.heap.size ≤ q) [(h, .inr (1, [.null, .null, .null, .null, .int 0]))] := va_D_one (Or.inl rfl)
  have hl : lv_has ls 1 [(0, .ref h)] := hl
  refine lv_aload_n hx hb dX1_init_0 rfl (lv_at hl 0 rfl) ?_
  refine W.objInit hx hb hown (hts _ (tb_cons _ w_ml_X1_1)) (hts _ (tb_cons _ w_im_obj)) (hts _ (tb_cons _ w_co_obj)) rfl (by rw [hml]; exact hl.1) rfl dX1_init_1 (Nat.le_of_ble_eq_true rfl) (Nat.le_of_ble_eq_true rfl) ?_
  refine W.eq (g2 := F0 m 4 ls []) rfl ?_
  refine lv_aload_n hx hb dX1_init_4 rfl (lv_at hl 0 rfl) ?_
  refine lv_sipush (v := 200) hx hb dX1_init_5 (by decide) ?_
  refine va_newa (atype := .boolean) (ty := .boolean) (N' := 200) (a0 := (200, .inl (fun _ => 0))) hx hb (hts _ (tb_cons _ w_ac_boolean)) rfl hK hP hD hS hA (fun _ => rfl) (by decide) (by decide) (by decide) (Nat.le_of_ble_eq_true rfl) (Nat.le_of_ble_eq_true rfl) dX1_init_8 (fun q1 C1 H hK hP hD hS => ?_)
  have hP : va_P G vwCl [(h, .inr (1, [.null, .null, .null, .null, .int 0])), (q1, .inl (C1, 200, .inl (fun _ => 0)))] H := hP
  have hD : va_D (fun q => q = h ∨ s.heap.size ≤ q) [(h, .inr (1, [.null, .null, .null, .null, .int 0])), (q1, .inl (C1, 200, .inl (fun _ => 0)))] := hD
  have hK : va_K G vwCl [(C1, .boolean)] s := hK
  refine va_putF (D := G) (ci := 1) (v := .ref q1) (ty := .array .boolean) (C := RX1) (T := TX1) (N := 5) hx hb hts hin tyX1 tyX1_ok nmX1 hown hK hP hD hS 0 rfl rfl 0 (by decide) (hts _ (tb_cons _ w_fl_X1_9)) (fun _ h9 => h9) rfl hnm rfl (by decide +kernel) rfl rfl (Nat.le_of_ble_eq_true rfl) dX1_init_10 (fun H locs hP hD hS => ?_)
  have hP : va_P G vwCl [(h, .inr (1, [.ref q1, .null, .null, .null, .int 0])), (q1, .inl (C1, 200, .inl (fun _ => 0)))] H := hP
  have hD : va_D (fun q => q = h ∨ s.heap.size ≤ q) [(h, .inr (1, [.ref q1, .null, .null, .null, .int 0])), (q1, .inl (C1, 200, .inl (fun _ => 0)))] := hD
  refine lv_aload_n hx hb dX1_init_13 rfl (lv_at hl 0 rfl) ?_
  refine lv_sipush (v := 200) hx hb dX1_init_14 (by decide) ?_
  refine va_newa (atype := .long) (ty := .long) (N' := 200) (a0 := (200, .inr (.inl (fun _ => 0)))) hx hb (hts _ (tb_cons _ w_ac_long)) rfl hK hP hD hS hA (fun _ => rfl) (by decide) (by decide) (by decide) (Nat.le_of_ble_eq_true rfl) (Nat.le_of_ble_eq_true rfl) dX1_init_17 (fun q2 C2 H hK hP hD hS => ?_)
  have hP : va_P G vwCl [(h, .inr (1, [.ref q1, .null, .null, .null, .int 0])), (q1, .inl (C1, 200, .inl (fun _ => 0))), (q2, .inl (C2, 200, .inr (.inl (fun _ => 0))))] H := hP
  have hD : va_D (fun q => q = h ∨ s.heap.size ≤ q) [(h, .inr (1, [.ref q1, .null, .null, .null, .int 0])), (q1, .inl (C1, 200, .inl (fun _ => 0))), (q2, .inl (C2, 200, .inr (.inl (fun _ => 0))))] := hD
  have hK : va_K G vwCl [(C1, .boolean), (C2, .long)] s := hK
  refine va_putF (D := G) (ci := 1) (v := .ref q2) (ty := .array .long) (C := RX1) (T := TX1) (N := 5) hx hb hts hin tyX1 tyX1_ok nmX1 hown hK hP hD hS 0 rfl rfl 1 (by decide) (hts _ (tb_cons _ w_fl_X1_13)) (fun _ h9 => h9) rfl hnm rfl (by decide +kernel) rfl rfl (Nat.le_of_ble_eq_true rfl) dX1_init_19 (fun H locs hP hD hS => ?_)
  have hP : va_P G vwCl [(h, .inr (1, [.ref q1, .ref q2, .null, .null, .int 0])), (q1, .inl (C1, 200, .inl (fun _ => 0))), (q2, .inl (C2, 200, .inr (.inl (fun _ => 0))))] H := hP
  have hD : va_D (fun q => q = h ∨ s.heap.size ≤ q) [(h, .inr (1, [.ref q1, .ref q2, .null, .null, .int 0])), (q1, .inl (C1, 200, .inl (fun _ => 0))), (q2, .inl (C2, 200, .inr (.inl (fun _ => 0))))] := hD
  refine lv_aload_n hx hb dX1_init_22 rfl (lv_at hl 0 rfl) ?_
  refine lv_sipush (v := 200) hx hb dX1_init_23 (by decide) ?_
  refine va_newa (atype := .long) (ty := .long) (N' := 200) (a0 := (200, .inr (.inl (fun _ => 0)))) hx hb (hts _ (tb_cons _ w_ac_long)) rfl hK hP hD hS hA (fun _ => rfl) (by decide) (by decide) (by decide) (Nat.le_of_ble_eq_true rfl) (Nat.le_of_ble_eq_true rfl) dX1_init_26 (fun q3 C3 H hK hP hD hS => ?_)
  have hP : va_P G vwCl [(h, .inr (1, [.ref q1, .ref q2, .null, .null, .int 0])), (q1, .inl (C1, 200, .inl (fun _ => 0))), (q2, .inl (C2, 200, .inr (.inl (fun _ => 0)))), (q3, .inl (C3, 200, .inr (.inl (fun _ => 0))))] H := hP
  have hD : va_D (fun q => q = h ∨ s.heap.size ≤ q) [(h, .inr (1, [.ref q1, .ref q2, .null, .null, .int 0])), (q1, .inl (C1, 200, .inl (fun _ => 0))), (q2, .inl (C2, 200, .inr (.inl (fun _ => 0)))), (q3, .inl (C3, 200, .inr (.inl (fun _ => 0))))] := hD
  have hK : va_K G vwCl [(C1, .boolean), (C2, .long), (C3, .long)] s := hK
  refine va_putF (D := G) (ci := 1) (v := .ref q3) (ty := .array .long) (C := RX1) (T := TX1) (N := 5) hx hb hts hin tyX1 tyX1_ok nmX1 hown hK hP hD hS 0 rfl rfl 2 (by decide) (hts _ (tb_cons _ w_fl_X1_17)) (fun _ h9 => h9) rfl hnm rfl (by decide +kernel) rfl rfl (Nat.le_of_ble_eq_true rfl) dX1_init_28 (fun H locs hP hD hS => ?_)
  have hP : va_P G vwCl [(h, .inr (1, [.ref q1, .ref q2, .ref q3, .null, .int 0])), (q1, .inl (C1, 200, .inl (fun _ => 0))), (q2, .inl (C2, 200, .inr (.inl (fun _ => 0)))), (q3, .inl (C3, 200, .inr (.inl (fun _ => 0))))] H := hP
  have hD : va_D (fun q => q = h ∨ s.heap.size ≤ q) [(h, .inr (1, [.ref q1, .ref q2, .ref q3, .null, .int 0])), (q1, .inl (C1, 200, .inl (fun _ => 0))), (q2, .inl (C2, 200, .inr (.inl (fun _ => 0)))), (q3, .inl (C3, 200, .inr (.inl (fun _ => 0))))] := hD
  refine lv_aload_n hx hb dX1_init_31 rfl (lv_at hl 0 rfl) ?_
  refine lv_sipush (v := 200) hx hb dX1_init_32 (by decide) ?_
  refine va_newa (atype := .int) (ty := .int) (N' := 200) (a0 := (200, .inl (fun _ => 0))) hx hb (hts _ (tb_cons _ w_ac_int)) rfl hK hP hD hS hA (fun _ => rfl) (by decide) (by decide) (by decide) (Nat.le_of_ble_eq_true rfl) (Nat.le_of_ble_eq_true rfl) dX1_init_35 (fun q4 C4 H hK hP hD hS => ?_)
  have hP : va_P G vwCl [(h, .inr (1, [.ref q1, .ref q2, .ref q3, .null, .int 0])), (q1, .inl (C1, 200, .inl (fun _ => 0))), (q2, .inl (C2, 200, .inr (.inl (fun _ => 0)))), (q3, .inl (C3, 200, .inr (.inl (fun _ => 0)))), (q4, .inl (C4, 200, .inl (fun _ => 0)))] H := hP
  have hD : va_D (fun q => q = h ∨ s.heap.size ≤ q) [(h, .inr (1, [.ref q1, .ref q2, .ref q3, .null, .int 0])), (q1, .inl (C1, 200, .inl (fun _ => 0))), (q2, .inl (C2, 200, .inr (.inl (fun _ => 0)))), (q3, .inl (C3, 200, .inr (.inl (fun _ => 0)))), (q4, .inl (C4, 200, .inl (fun _ => 0)))] := hD
  have hK : va_K G vwCl [(C1, .boolean), (C2, .long), (C3, .long), (C4, .int)] s := hK
  refine va_putF (D := G) (ci := 1) (v := .ref q4) (ty := .array .int) (C := RX1) (T := TX1) (N := 5) hx hb hts hin tyX1 tyX1_ok nmX1 hown hK hP hD hS 0 rfl rfl 3 (by decide) (hts _ (tb_cons _ w_fl_X1_20)) (fun _ h9 => h9) rfl hnm rfl (by decide +kernel) rfl rfl (Nat.le_of_ble_eq_true rfl) dX1_init_37 (fun H locs hP hD hS => ?_)
  have hP : va_P G vwCl [(h, .inr (1, [.ref q1, .ref q2, .ref q3, .ref q4, .int 0])), (q1, .inl (C1, 200, .inl (fun _ => 0))), (q2, .inl (C2, 200, .inr (.inl (fun _ => 0)))), (q3, .inl (C3, 200, .inr (.inl (fun _ => 0)))), (q4, .inl (C4, 200, .inl (fun _ => 0)))] H := hP
  have hD : va_D (fun q => q = h ∨ s.heap.size ≤ q) [(h, .inr (1, [.ref q1, .ref q2, .ref q3, .ref q4, .int 0])), (q1, .inl (C1, 200, .inl (fun _ => 0))), (q2, .inl (C2, 200, .inr (.inl (fun _ => 0)))), (q3, .inl (C3, 200, .inr (.inl (fun _ => 0)))), (q4, .inl (C4, 200, .inl (fun _ => 0)))] := hD
  exact W.vret hx hb hr (fun t ht hW => ⟨rfl, ⟨ad5 h q1 q2 q3 q4, ad5 C1 C1 C2 C3 C4, rfl, by rw [ht]; exact hP, va_K.moved hW.alike hK, ad5_apart hD, ad5_new hD⟩, hS.F ht⟩) hS.2.2 dX1_init_40
