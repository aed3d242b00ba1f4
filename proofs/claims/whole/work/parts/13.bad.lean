/-! what a throw needs of the start, and what it leaves -/
abbrev EIA : String := "java/lang/IllegalArgumentException"
abbrev ENS : String := "java/util/NoSuchElementException"
abbrev ENM : List String := ["java/lang/RuntimeException", "java/lang/Exception"]
/-- the static's place: its class's statics cell, a slot of it of the field's type -/
def tx_Pl (C n d : String) (A : Nat → Prop) (U : State) (H : Heap) : Prop :=
  ∃ (ci : ClassId) (kc : Class) (j : Nat) (fd : Field) (b : Nat) (ce : Cell), (U.vm.findClass C = some ci ∧ U.fieldFound? C n d = some (ci, kc, j, fd) ∧ fd.isStatic = true ∧ kc.statics = some b ∧ kc.staticTypes[fd.slot]? = some fd.type) ∧ (H[b]? = some ce ∧ ¬ A b) ∧ ce.vm.isStatics = true ∧ ce.cls = ci ∧ fd.slot < ce.slots.size
theorem tx_Pl_of {C n d : String} {A : Nat → Prop} {s : State} {args : Array Value} (h : (Cond.laysStatic C n d).before args s = true) (hA : ∀ b : Nat, b < s.heap.size → ¬ A b) : tx_Pl C n d A s s.heap := by
  obtain ⟨ci, kc, j, fd, b, ce, q1, q2, q3, q4, q5, q6, q7, q8, q9⟩ := Cond.laysStatic_spec h
  exact ⟨ci, kc, j, fd, b, ce, ⟨q1, q2, q3, q4, q9⟩, ⟨q5, hA b (Array.getElem?_eq_some_iff.mp q5).1⟩, q6, q7, q8⟩
theorem tx_Pl_word {C n d : String} {A : Nat → Prop} {s : State} {args : Array Value} (h : tx_Pl C n d A s s.heap) : (Cond.laysStatic C n d).before args s = true := by
  obtain ⟨ci, kc, j, fd, b, ce, ⟨q1, q2, q3, q4, q9⟩, ⟨q5, _⟩, q6, q7, q8⟩ := h
  have z : (Cond.laysStatic C n d).holds args s none s [] = true := Cond.laysStatic_of q1 q2 q3 q4 q5 q6 q7 q8 q9
  exact z
theorem tx_Pl_to {C n d : String} {A B : Nat → Prop} {s U : State} {H H1 : Heap} (h : tx_Pl C n d A s H) (ha : s.vm.Alike U.vm) (hh : ∀ b : Nat, b < H.size → ¬ A b → H1[b]? = H[b]?) (hAB : ∀ q, B q → A q) : tx_Pl C n d B U H1 := by
  obtain ⟨ci, kc, j, fd, b, ce, ⟨q1, q2, q3, q4, q9⟩, ⟨q5, q0⟩, q6⟩ := h
  obtain ⟨kc', z, e⟩ := State.fieldFound?_setVm ha q2
  exact ⟨ci, kc', j, fd, b, ce, ⟨by rw [ha.findClass]; exact q1, z, q3, by rw [e]; exact q4, by rw [e]; exact q9⟩, ⟨by rw [hh b (Array.getElem?_eq_some_iff.mp q5).1 q0]; exact q5, fun w => q0 (hAB _ w)⟩, q6⟩
/-- a static of Throwable: its place, and a reference or null there -/
def tx_Zs (n d : String) (A : Nat → Prop) (U : State) (H : Heap) : Prop := va_Zq Bundle.tN n d A U H ∧ tx_Pl Bundle.tN n d A U H
theorem tx_Zs_to {n d : String} {A B : Nat → Prop} {s U : State} {H H1 : Heap} (h : tx_Zs n d A s H) (ha : s.vm.Alike U.vm) (hh : ∀ b : Nat, b < H.size → ¬ A b → H1[b]? = H[b]?) (hAB : ∀ q, B q → A q) : tx_Zs n d B U H1 :=
  ⟨((h.1.kept hh).narrow hAB).moved ha, tx_Pl_to h.2 ha hh hAB⟩
abbrev tx_FL : List Cond := [.declares (Bundle.init0 "java/lang/RuntimeException"), .declares (Bundle.init0 "java/lang/Exception"), .declares (Bundle.init0 Bundle.tN)]
def tx_D (U : State) : Prop := ∀ w ∈ tx_FL, ∀ args : Array Value, w.before args U = true
theorem tx_face {s U : State} {w : Cond} {args a' : Array Value} (ha : s.vm.Alike U.vm) (hf : w.faceAtom = true) (ho : w.onTables = true) (h : w.before args s = true) : w.before a' U = true := by
  have h1 := Cond.faceAtom_setVm (args := args) ha w hf h
  have e := Cond.onTables_vm (A := args) (A' := a') (U := s) (U' := U) U.vm w ho
  have hU : U.setVm U.vm = U := rfl
  rw [hU] at e
  rw [← e]
  exact h1
theorem tx_D_to {s U : State} (h : tx_D s) (ha : s.vm.Alike U.vm) : tx_D U := by
  intro w hw args
  have q := h w hw #[]
  simp only [tx_FL, List.mem_cons, List.not_mem_nil, or_false] at hw
  rcases hw with rfl | rfl | rfl
  · exact tx_face ha rfl rfl q
  · exact tx_face ha rfl rfl q
  · exact tx_face ha rfl rfl q
def tx_G2 (A : Nat → Prop) (U : State) (H : Heap) : Prop := tx_Zs "UNASSIGNED_STACK" Bundle.steD A U H ∧ tx_Zs "SUPPRESSED_SENTINEL" Bundle.listD A U H ∧ tx_D U
/-- the two statics of Throwable hold a reference or null -/
def tx_G (U : State) : Prop := tx_G2 (fun _ => False) U U.heap
theorem tx_G2_to {A B : Nat → Prop} {s U : State} {H H1 : Heap} (h : tx_G2 A s H) (ha : s.vm.Alike U.vm) (hh : ∀ b : Nat, b < H.size → ¬ A b → H1[b]? = H[b]?) (hAB : ∀ q, B q → A q) : tx_G2 B U H1 := ⟨tx_Zs_to h.1 ha hh hAB, tx_Zs_to h.2.1 ha hh hAB, tx_D_to h.2.2 ha⟩
theorem tx_isRef {C n d : String} {A : Nat → Prop} {s : State} {args : Array Value} (h : va_Zq C n d A s s.heap) : (Cond.isRef (.static C n d)).before args s = true := by
  rcases h with h | ⟨t, h⟩
  · obtain ⟨cf, kf, fi, f, a, cell, h1, h2, h3, h4, h5, h6, h7, h8⟩ := h
    simp [Cond.before, Cond.holds, Cond.value, Term.eval, State.fieldNamed?, h1, h2, h4, h5, h6, h7]
  · obtain ⟨cf, kf, fi, f, a, cell, h1, h2, h3, h4, h5, h6, h7, h8⟩ := h
    simp [Cond.before, Cond.holds, Cond.value, Term.eval, State.fieldNamed?, h1, h2, h4, h5, h6, h7]
set_option maxRecDepth 100000 in
theorem own_IA : ∀ w ∈ Bundle.ownAtoms0 RX0 37 EIA ENM, w ∈ TB ∨ w = .isRef (.static Bundle.tN "UNASSIGNED_STACK" Bundle.steD) ∨ w = .isRef (.static Bundle.tN "SUPPRESSED_SENTINEL" Bundle.listD) ∨ w = .castable EIA EIA ∨ w = .laysStatic Bundle.tN "UNASSIGNED_STACK" Bundle.steD ∨ w = .laysStatic Bundle.tN "SUPPRESSED_SENTINEL" Bundle.listD ∨ w ∈ tx_FL := by decide +kernel
set_option maxRecDepth 100000 in
theorem own_NS : ∀ w ∈ Bundle.ownAtoms0 RX0 50 ENS ENM, w ∈ TB ∨ w = .isRef (.static Bundle.tN "UNASSIGNED_STACK" Bundle.steD) ∨ w = .isRef (.static Bundle.tN "SUPPRESSED_SENTINEL" Bundle.listD) ∨ w = .castable ENS ENS ∨ w = .laysStatic Bundle.tN "UNASSIGNED_STACK" Bundle.steD ∨ w = .laysStatic Bundle.tN "SUPPRESSED_SENTINEL" Bundle.listD ∨ w ∈ tx_FL := by decide +kernel
theorem own_ok {s : State} {args : Array Value} {cls : String} {ic : Nat} (hq : ∀ w ∈ Bundle.ownAtoms0 RX0 ic cls ENM, w ∈ TB ∨ w = .isRef (.static Bundle.tN "UNASSIGNED_STACK" Bundle.steD) ∨ w = .isRef (.static Bundle.tN "SUPPRESSED_SENTINEL" Bundle.listD) ∨ w = .castable cls cls ∨ w = .laysStatic Bundle.tN "UNASSIGNED_STACK" Bundle.steD ∨ w = .laysStatic Bundle.tN "SUPPRESSED_SENTINEL" Bundle.listD ∨ w ∈ tx_FL)
    (hts : ∀ w ∈ TB, w.before args s = true) (hG : tx_G s) (hins : (Cond.instantiable cls 6).before args s = true) : ∀ w ∈ Bundle.ownAtoms0 RX0 ic cls ENM, w.before args s = true := by
  intro w hw
  rcases hq w hw with h | h | h | h | h | h | h
  · exact hts w h
  · rw [h]; exact tx_isRef hG.1.1
  · rw [h]; exact tx_isRef hG.2.1.1
  · rw [h]
    obtain ⟨c1, k1, hc1, -⟩ := Cond.instantiable_spec hins
    exact tx_castable hc1
  · rw [h]; exact tx_Pl_word hG.1.2
  · rw [h]; exact tx_Pl_word hG.2.1.2
  · exact hG.2.2 w h args
/-- behind a throw of an object of the class cls: old cells as they were -/
def th_Q (cls : String) : Array Value → State → Outcome → State → Prop := fun _ st oc t => ∃ (x : Addr) (ce : Cell), oc = .threw x ∧ t.heap[x]? = some ce ∧ ce.vm = .none ∧ t.vm.findClass cls = some ce.cls ∧ st.heap.size ≤ t.heap.size ∧ ∀ q : Nat, q < st.heap.size → t.heap[q]? = st.heap[q]?
def bX (G : va_G) (a : Nat → Nat) (C : Nat → ClassId) (K D : Nat → Int64) (Wt O : Nat → Int32) (n : Int32) (U : State) : Prop := rX G a C K D Wt O n U ∧ tx_G U
theorem tx_G_moved {s U : State} (h : tx_G s) (hh : U.heap = s.heap) (ha : s.vm.Alike U.vm) : tx_G U := by
  unfold tx_G
  rw [hh]
  exact tx_G2_to h ha (fun _ _ _ => rfl) (fun _ z => z)
theorem pXb_V {G : va_G} {a : Nat → Nat} {C : Nat → ClassId} {K D : Nat → Int64} {Wt O : Nat → Int32} {n : Int32} {s : State} {As : List Value} (hP : va_P G vwCl (wX a C K D Wt O n) s.heap) (hK : va_K G vwCl (tX C) s) (hG : tx_G s) :
    PreV s s.heap RX0 (a 0) (va_Pc (.ref (a 0) :: As) (bX G a C K D Wt O n)) As :=
  ⟨fun v U g mk q => ⟨q.1, (rX_blind (av := .ref (a 0) :: As) v U g mk ⟨q.1, q.2.1⟩).2, tx_G_moved (s := U) (U := U.calling g mk v) q.2.2 rfl (Vm.Alike.refl U.vm)⟩, va_recv (q0 := 0) hK hP rfl rfl,
    fun U hU hW => ⟨rfl, ⟨by rw [hU]; exact hP, va_K.moved hW.alike hK⟩, tx_G_moved hG hU hW.alike⟩⟩
