/-! the catch: a row of the method's own table, her class linked already or not -/
section TXC
variable {p : Program} {l : Launch} {e : Env} {R : Room} {s : State} {m : MethodId} {args : Array Value} {below : List Frame} {meth : Method} {c : Code} {H : Heap} {locs : List Loc} {cells slots : Nat} {Q : State → Prop}
/-- what the search of the frame's table gives, and the tables that it leaves -/
def tx_Seek (e : Env) (u : State) (f : JFrame) (a : Addr) (rows : List ExceptionTableEntry) (h : Handler) (vm' : Vm) : Prop :=
  ∀ (P : Handler → Pre) (E : CtlPost) (d : Bool) (acts : List Action), Sem.wp (findHandler.go f a rows) P E e d acts u ↔ P h d acts (u.setVm vm')
theorem tx_seekRow {u : State} {f : JFrame} {a : Addr} {x : ExceptionTableEntry} {t : List ExceptionTableEntry} {cT : ClassId} {cell : Cell} (hx : covers x f.pc = true) (h0 : x.catchType ≠ 0)
    (hl : u.vm.ClassLinks e.platform f.method.cls x.catchType cT) (hcell : u.heap[a]? = some cell) (hobj : ∀ k, cell.vm ≠ .statics k) (hk : ∃ k, u.vm.classes[cell.cls]? = some k) (hc : ∃ k, u.vm.classes[cT]? = some k)
    (P : Handler → Pre) (E : CtlPost) (d : Bool) (acts : List Action) :
    Sem.wp (findHandler.go f a (x :: t)) P E e d acts u ↔
      if u.vm.assignable cell.cls cT = true then P (.found x.handlerPc) d acts (u.setVm (u.vm.noted f.method.cls x.catchType (.cls cT)))
      else Sem.wp (findHandler.go f a t) P E e d acts (u.setVm (u.vm.noted f.method.cls x.catchType (.cls cT))) := by
  simp only [covers] at hx
  obtain ⟨ha, ht⟩ := (resolveClass_links e.toSetting hl).op (op := VmOp.resolveClass f.method.cls x.catchType) rfl
  have hal : u.vm.Alike (u.vm.noted f.method.cls x.catchType (.cls cT)) := (Vm.Alike.refl u.vm).noted _ _ _
  obtain ⟨k1, hk1⟩ := hk
  obtain ⟨k2, hk2⟩ := hc
  obtain ⟨j1, hj1, -⟩ := hal.2.2 _ _ hk1
  obtain ⟨j2, hj2, -⟩ := hal.2.2 _ _ hk2
  have has : (u.vm.noted f.method.cls x.catchType (.cls cT)).assignable cell.cls cT = u.vm.assignable cell.cls cT := hal.assignable _ _
  cases hfit : u.vm.assignable cell.cls cT <;>
    (rw [hfit] at has; simp [findHandler.go, hx, h0, ha, ht, hcell, hobj, hj1, hj2, has, VmOp.dirties, VmOp.acts])
theorem tx_refl (vm : Vm) (c : ClassId) : vm.assignable c c = true := by
  show vm.assignableAux (255 + 1) c c = true
  rw [Vm.assignableAux]
  simp
theorem tx_castable {args : Array Value} {s : State} {cls : String} {k : ClassId} (h : s.vm.findClass cls = some k) : (Cond.castable cls cls).before args s = true := by
  simp [Cond.before, Cond.holds, Cond.value, h, tx_refl]
/-- into the handler that the search has found -/
theorem tx_into {T : State} (X : Stand p l e R s m args below meth c T locs cells slots) {a : Addr} {g : JFrame} (hg : g.method = m) {pc : Nat} {vm' : Vm} (hW : s.WarmedH vm') (hs : tx_Seek e ((T.setTop g).pushFrame (.throwing a)) g a c.exceptionTable.toList (.found pc) vm') :
    Stand p l e R s m args below meth c (T.setVm vm') locs cells slots ∧
      ∀ tg, Steps p.tables e below ((T.setVm vm').setTop { g with pc := pc, stack := [.ref a] }) tg → Steps p.tables e below ((T.setTop g).pushFrame (.throwing a)) tg := by
  refine ⟨X.noted hW, fun tg hrest => ?_⟩
  subst hg
  obtain ⟨hgo, hw⟩ := X.here.throwing a
  refine Steps.head hgo hw ?_
  have hstep : (stepThrowing e ((T.setTop g).pushFrame (.throwing a)) a (.java g :: T.frames.tail)).1 = (((T.setTop g).pushFrame (.throwing a)).setVm vm').setFrames (.java { g with pc := pc, stack := [.ref a] } :: T.frames.tail) := by
    simp only [stepThrowing, searchFrame, vmDo]
    generalize hr : Sem.go _ e false [] ((T.setTop g).pushFrame (.throwing a)) = res
    obtain ⟨as, rfl, -⟩ := Sem.eq_ok_of hr (a := Handler.found pc) (s' := ((T.setTop g).pushFrame (.throwing a)).setVm vm') (acts' := [])
      (by
        have hm : ((T.setTop g).pushFrame (.throwing a)).vm.method? g.method = some meth := X.method'
        have key : ∀ (P : Handler → Pre) (E : CtlPost) (d : Bool) (acts : List Action), Sem.wp (findHandler g a) P E e d acts ((T.setTop g).pushFrame (.throwing a)) ↔ P (.found pc) d acts (((T.setTop g).pushFrame (.throwing a)).setVm vm') :=
          fun P E d acts => (Jvm.W.findHandler_eq hm X.code).trans (hs P E d acts)
        simp [key _ _ _ _])
    rfl
  rw [stepThread_throwing (frames_entered X.here.top _), hstep]
  obtain ⟨g₀, hr⟩ := X.frames_eq
  have hr' : (T.setVm vm').frames = .java g₀ :: below := hr
  rw [State.setTop_of_frames _ hr'] at hrest
  have e1 : (((T.setTop g).pushFrame (.throwing a)).setVm vm').setFrames (.java { g with pc := pc, stack := [.ref a] } :: T.frames.tail) = (T.setVm vm').setFrames (.java { g with pc := pc, stack := [.ref a] } :: below) := by
    rw [State.pushFrame, State.setTop_of_frames _ hr, State.setFrames_setFrames, X.tail]
    show ((T.setVm vm').setFrames _).setFrames _ = _
    rw [State.setFrames_setFrames]
  rw [e1]
  exact hrest
/-- the first row takes it -/
theorem tx_catch1 {x : ExceptionTableEntry} {rows : List ExceptionTableEntry} {own cls : String} {a : Addr} {cell : Cell} {pc : Nat} {ls : Array Slot} {st : List Value} (htab : c.exceptionTable.toList = x :: rows) (hx : covers x pc = true) (h0 : x.catchType ≠ 0)
    (hown : s.vm.findClass own = some m.cls) (hlink : (Cond.classLink own x.catchType cls).before args s = true) (hcell : H[a]? = some cell) (hobj : cell.vm = .none) (hcls : s.vm.findClass cls = some cell.cls)
    (kk : W p l e R s m args below meth c H locs cells slots Q (F0 m x.handlerPc ls [.ref a])) : tx_V p l e R s m args below meth c H locs cells slots Q (F0 m pc ls st) a := by
  intro T hT X
  have hpl : e.platform.magicAccessors = ({} : Platform).magicAccessors := by rw [X.admits.platform]
  obtain ⟨cT, hcT, hcl⟩ := Cond.classLink_spec hown hlink e.platform hpl
  cases Option.some.inj (hcls.symm.trans hcT)
  obtain ⟨dk, _, _, kt, hd, _, _, _, _, hkt, _, hopen⟩ := hcl.here
  have hW1 := X.warmed.noted hd hopen (State.rightAt_cls hcl)
  obtain ⟨j, hj, -⟩ := X.warmed.alike.2.2 _ _ hkt
  obtain ⟨X', st'⟩ := tx_into X (g := F0 m pc ls st) (a := a) rfl hW1 (pc := x.handlerPc) (fun P E d acts => by
    rw [htab, tx_seekRow (u := (T.setTop (F0 m pc ls st)).pushFrame (.throwing a)) (f := F0 m pc ls st) hx h0 (X.warmed.classLinks hcl) (show T.heap[a]? = some cell by rw [hT]; exact hcell) (fun k => by rw [hobj]; simp) ⟨j, hj⟩ ⟨j, hj⟩ P E d acts, if_pos (by
      show T.vm.assignable cell.cls cell.cls = true
      exact tx_refl _ _)]
    exact Iff.rfl)
  obtain ⟨t, a1, b1⟩ := kk (T.setVm (T.vm.noted m.cls x.catchType (.cls cell.cls))) hT X'
  exact ⟨t, st' t a1, b1⟩
/-- the first row passes it, the second takes it -/
theorem tx_catch2 {x y : ExceptionTableEntry} {rows : List ExceptionTableEntry} {own cls other : String} {a : Addr} {cell : Cell} {pc : Nat} {ls : Array Slot} {st : List Value} (htab : c.exceptionTable.toList = x :: y :: rows) (hx : covers x pc = true) (h0 : x.catchType ≠ 0) (hy : covers y pc = true) (h1 : y.catchType ≠ 0)
    (hown : s.vm.findClass own = some m.cls) (hlinkx : (Cond.classLink own x.catchType other).before args s = true) (hno : va_Nc cls other s) (hlink : (Cond.classLink own y.catchType cls).before args s = true) (hcell : H[a]? = some cell) (hobj : cell.vm = .none) (hcls : s.vm.findClass cls = some cell.cls)
    (kk : W p l e R s m args below meth c H locs cells slots Q (F0 m y.handlerPc ls [.ref a])) : tx_V p l e R s m args below meth c H locs cells slots Q (F0 m pc ls st) a := by
  intro T hT X
  have hpl : e.platform.magicAccessors = ({} : Platform).magicAccessors := by rw [X.admits.platform]
  obtain ⟨cO, hcO, hclO⟩ := Cond.classLink_spec hown hlinkx e.platform hpl
  obtain ⟨cT, hcT, hcl⟩ := Cond.classLink_spec hown hlink e.platform hpl
  cases Option.some.inj (hcls.symm.trans hcT)
  obtain ⟨c5, c6, hc5, hc6, hnot⟩ := hno
  cases Option.some.inj (hc5.symm.trans hcls)
  cases Option.some.inj (hc6.symm.trans hcO)
  obtain ⟨dO, _, _, kO, hdO, _, _, _, _, hkO, _, hopenO⟩ := hclO.here
  obtain ⟨dk, _, _, kt, hd, _, _, _, _, hkt, _, hopen⟩ := hcl.here
  have hW1 := X.warmed.noted hdO hopenO (State.rightAt_cls hclO)
  have hW2 := hW1.noted hd hopen (State.rightAt_cls hcl)
  obtain ⟨j, hj, -⟩ := X.warmed.alike.2.2 _ _ hkt
  obtain ⟨i, hi, -⟩ := X.warmed.alike.2.2 _ _ hkO
  obtain ⟨j2, hj2, -⟩ := hW1.alike.2.2 _ _ hkt
  obtain ⟨X', st'⟩ := tx_into X (g := F0 m pc ls st) (a := a) rfl hW2 (pc := y.handlerPc) (fun P E d acts => by
    rw [htab, tx_seekRow (u := (T.setTop (F0 m pc ls st)).pushFrame (.throwing a)) (f := F0 m pc ls st) hx h0 (X.warmed.classLinks hclO) (show T.heap[a]? = some cell by rw [hT]; exact hcell) (fun k => by rw [hobj]; simp) ⟨j, hj⟩ ⟨i, hi⟩ P E d acts, if_neg (by
      show ¬ T.vm.assignable cell.cls cO = true
      rw [X.warmed.alike.assignable, hnot]; simp)]
    refine (tx_seekRow (u := ((T.setTop (F0 m pc ls st)).pushFrame (.throwing a)).setVm (T.vm.noted m.cls x.catchType (.cls cO))) (f := F0 m pc ls st) hy h1 (hW1.classLinks hcl) (show T.heap[a]? = some cell by rw [hT]; exact hcell) (fun k => by rw [hobj]; simp) ⟨j2, hj2⟩ ⟨j2, hj2⟩ P E d acts).trans ?_
    rw [if_pos (tx_refl _ _)]
    exact Iff.rfl)
  obtain ⟨t, a1, b1⟩ := kk (T.setVm ((T.vm.noted m.cls x.catchType (.cls cO)).noted m.cls y.catchType (.cls cell.cls))) hT X'
  exact ⟨t, st' t a1, b1⟩
end TXC
