/-! what a throw needs of the start, and what it leaves -/
abbrev EIA : String := "java/lang/IllegalArgumentException"
abbrev ENS : String := "java/util/NoSuchElementException"
abbrev ENM : List String := ["java/lang/RuntimeException", "java/lang/Exception"]
/-- the two statics of Throwable hold a reference or null -/
def tx_G (U : State) : Prop := va_Zq Bundle.tN "UNASSIGNED_STACK" Bundle.steD (fun _ => False) U U.heap ∧ va_Zq Bundle.tN "SUPPRESSED_SENTINEL" Bundle.listD (fun _ => False) U U.heap
theorem tx_isRef {C n d : String} {A : Nat → Prop} {s : State} {args : Array Value} (h : va_Zq C n d A s s.heap) : (Cond.isRef (.static C n d)).before args s = true := by
  rcases h with h | ⟨t, h⟩
  · obtain ⟨cf, kf, fi, f, a, cell, h1, h2, h3, h4, h5, h6, h7, h8⟩ := h
    simp [Cond.before, Cond.holds, Cond.value, Term.eval, State.fieldNamed?, h1, h2, h4, h5, h6, h7]
  · obtain ⟨cf, kf, fi, f, a, cell, h1, h2, h3, h4, h5, h6, h7, h8⟩ := h
    simp [Cond.before, Cond.holds, Cond.value, Term.eval, State.fieldNamed?, h1, h2, h4, h5, h6, h7]
set_option maxRecDepth 100000 in
theorem own_IA : ∀ w ∈ Bundle.ownAtoms0 RX0 37 EIA ENM, w ∈ TB ∨ w = .isRef (.static Bundle.tN "UNASSIGNED_STACK" Bundle.steD) ∨ w = .isRef (.static Bundle.tN "SUPPRESSED_SENTINEL" Bundle.listD) ∨ w = .castable EIA EIA := by decide +kernel
set_option maxRecDepth 100000 in
theorem own_NS : ∀ w ∈ Bundle.ownAtoms0 RX0 50 ENS ENM, w ∈ TB ∨ w = .isRef (.static Bundle.tN "UNASSIGNED_STACK" Bundle.steD) ∨ w = .isRef (.static Bundle.tN "SUPPRESSED_SENTINEL" Bundle.listD) ∨ w = .castable ENS ENS := by decide +kernel
theorem own_ok {s : State} {args : Array Value} {cls : String} {ic : Nat} (hq : ∀ w ∈ Bundle.ownAtoms0 RX0 ic cls ENM, w ∈ TB ∨ w = .isRef (.static Bundle.tN "UNASSIGNED_STACK" Bundle.steD) ∨ w = .isRef (.static Bundle.tN "SUPPRESSED_SENTINEL" Bundle.listD) ∨ w = .castable cls cls)
    (hts : ∀ w ∈ TB, w.before args s = true) (hG : tx_G s) (hins : (Cond.instantiable cls 6).before args s = true) : ∀ w ∈ Bundle.ownAtoms0 RX0 ic cls ENM, w.before args s = true := by
  intro w hw
  rcases hq w hw with h | h | h | h
  · exact hts w h
  · rw [h]; exact tx_isRef hG.1
  · rw [h]; exact tx_isRef hG.2
  · rw [h]
    obtain ⟨c1, k1, hc1, -⟩ := Cond.instantiable_spec hins
    exact tx_castable hc1
/-- behind a throw of an object of the class cls: old cells as they were -/
def th_Q (cls : String) : Array Value → State → Outcome → State → Prop := fun _ st oc t => ∃ (x : Addr) (ce : Cell), oc = .threw x ∧ t.heap[x]? = some ce ∧ ce.vm = .none ∧ st.vm.findClass cls = some ce.cls ∧ st.heap.size ≤ t.heap.size ∧ ∀ q : Nat, q < st.heap.size → t.heap[q]? = st.heap[q]?
def bX (G : va_G) (a : Nat → Nat) (C : Nat → ClassId) (K D : Nat → Int64) (Wt O : Nat → Int32) (n : Int32) (U : State) : Prop := rX G a C K D Wt O n U ∧ tx_G U
theorem tx_G_moved {s U : State} (h : tx_G s) (hh : U.heap = s.heap) (ha : s.vm.Alike U.vm) : tx_G U := by
  unfold tx_G
  rw [hh]
  exact ⟨va_Zq.moved ha h.1, va_Zq.moved ha h.2⟩
theorem pXb_V {G : va_G} {a : Nat → Nat} {C : Nat → ClassId} {K D : Nat → Int64} {Wt O : Nat → Int32} {n : Int32} {s : State} {As : List Value} (hP : va_P G vwCl (wX a C K D Wt O n) s.heap) (hK : va_K G vwCl (tX C) s) (hG : tx_G s) :
    PreV s s.heap RX0 (a 0) (va_Pc (.ref (a 0) :: As) (bX G a C K D Wt O n)) As :=
  ⟨fun v U g mk q => ⟨q.1, (rX_blind (av := .ref (a 0) :: As) v U g mk ⟨q.1, q.2.1⟩).2, tx_G_moved (s := U) (U := U.calling g mk v) q.2.2 rfl (Vm.Alike.refl U.vm)⟩, va_recv (q0 := 0) hK hP rfl rfl,
    fun U hU hW => ⟨rfl, ⟨by rw [hU]; exact hP, va_K.moved hW.alike hK⟩, tx_G_moved hG hU hW.alike⟩⟩
