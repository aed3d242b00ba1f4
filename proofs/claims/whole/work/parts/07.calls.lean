/-! calls of methods that return or throw -/
section TXB
variable {p : Program} {l : Launch} {e : Env} {R : Room} {s : State} {m : MethodId} {args : Array Value} {below : List Frame} {meth : Method} {c : Code} {H : Heap} {locs : List Loc} {cells slots : Nat} {Q : State → Prop} {T : State}
/-- the call's inside: the callee runs, and the walk stands again, or the note lies over its frame -/
theorem tx_core (X : Stand p l e R s m args below meth c T locs cells slots) {y : MethodName} {ws : List Cond} {rm : Room} {Pc : Array Value → State → Prop} {Qc : Array Value → State → Outcome → State → Prop} {mc ms maxL : Nat} {free : Addr → Prop}
    (hM : tx_Met l y ws rm Pc Qc mc ms free) (hrc : rm.cells = mc) (hrs : rm.slots = ms) (hfr : rm.frames + 1 ≤ R.frames) {mk : MethodId} {methY : Method} {cY : Code} {kY : Class}
    (hn : T.methodNamed? y = some mk) (hmY : T.vm.method? mk = some methY) (hcY : methY.code = some cY) (hlY : cY.maxLocals = maxL) (hkY : T.vm.classes[mk.cls]? = some kY) (hinitY : kY.init = .initialized)
    {g : JFrame} (hg : g.method = m) (hsize : g.locals.size = c.maxLocals) {ig : Instr} {len : Nat} (hdg : decode c.code g.pc = .ok (ig, len)) (hW : 2 * g.monitorRoom + (g.stack.map fun v => v.category).sum + (maxL + 11) + rm.locals ≤ R.locals)
    (hcells : cells + mc ≤ R.cells) (hslots : slots + ms ≤ R.slots) {a : Array Value} (hws : ∀ w ∈ ws, w.before a T = true) (hPc : Pc a (T.calling g mk a)) :
    ∃ (o : Outcome) (t T' : State) (L : List Loc), Stand p l e R s m args below meth c T' (locs ++ L) (cells + mc) (slots + ms) ∧ (∀ q ∈ L, free q.base) ∧ T'.heap = t.heap ∧ T'.vm = t.vm ∧ Qc a (T.calling g mk a) o t ∧
      (∀ v, o = .returned v → Steps p.tables e below (doInvoke e (T.setTop g) [] mk a).1 (T'.setTop { g with pc := g.pc + len, stack := v.toList ++ g.stack })) ∧
      (∀ x, o = .threw x → Steps p.tables e below (doInvoke e (T.setTop g) [] mk a).1 ((T'.setTop g).pushFrame (.throwing x))) := by
  have h : At T g.method c below := by rw [hg]; exact X.here
  have happ : (headSpec ws rm).appliesLoose y e.platform (T.calling g mk a) = true :=
    Spec.appliesLoose_calling (g := g) h hdg hn hkY hinitY
      (X.room_calling (g := g) (R' := rm) hsize hmY hcY hfr (by rw [hlY]; exact hW) (by rw [hrc]; exact hcells) (by rw [hrs]; exact hslots)) (atoms_intro hws)
  obtain ⟨mid, hmid⟩ := h.above
  have hfm : (T.setTop g).frames = (.java g :: mid) ++ below := by rw [State.frames_setTop' g h.top, hmid]; rfl
  obtain ⟨o, t, hsteps, -, hend, hq, L, ⟨hWt, hsame⟩, hL⟩ := Steps.callFree hM p X.admits X.cas X.clock (acts := []) hfm happ hPc trivial
  rw [State.frames_setTop' g h.top, X.tail] at hend
  have hsame : (T.calling g mk a).sameButNew ({ t with vm := (T.calling g mk a).vm } : State) L mc ms := hsame
  obtain ⟨e2, q2, q3, q4, q5, q6⟩ := hsame
  have hW' : T.WarmedH t.vm := hWt
  have e3 : t = ({ (T.calling g mk a).setFrames t.frames with heap := t.heap, slotsUsed := t.slotsUsed } : State).setVm t.vm := by
    have q : t = ({ t with vm := (T.calling g mk a).vm } : State).setVm t.vm := rfl
    rw [e2] at q
    exact q
  obtain ⟨g₀, hr⟩ := X.frames_eq
  have hr' : (({ T with heap := t.heap, slotsUsed := t.slotsUsed } : State).setVm t.vm).frames = .java g₀ :: below := hr
  obtain ⟨th, hth, -⟩ := State.frames_cons hr
  have hB : T.sameButNew ({ T with heap := t.heap, slotsUsed := t.slotsUsed } : State) L mc ms := by
    refine ⟨?_, q2, q3, q4, q5, q6⟩
    show ({ T with heap := t.heap, slotsUsed := t.slotsUsed } : State) = { T.setFrames T.frames with heap := t.heap, slotsUsed := t.slotsUsed }
    rw [State.setFrames_self hth]
  subst hg
  refine ⟨o, t, ({ T with heap := t.heap, slotsUsed := t.slotsUsed } : State).setVm t.vm, L,
    ⟨X.admits, X.cas, X.clock, X.frames, X.room, X.hears, X.method, X.code, (X.here.setHeapUsed t.heap t.slotsUsed).setVm hW'.alike, X.tail, State.WarmedH.trans X.warmed hW', X.limits, X.bytes, X.same.trans (hB.setVm s.vm)⟩,
    hL, rfl, rfl, hq, ?_, ?_⟩
  · intro v ho
    subst ho
    obtain ⟨c₂, i₂, len₂, hc₂, hd₂, hf₂⟩ := hend
    have hcc : c₂ = c := by
      have h1 : t.code? g.method = T.code? g.method := by rw [State.code?_eq, State.code?_eq, hW'.alike.method?]
      exact Option.some.inj (hc₂.symm.trans (h1.trans X.here.code))
    subst hcc
    have hlen : len₂ = len := by rw [hdg] at hd₂; cases hd₂; rfl
    subst hlen
    have ht : t = (({ T with heap := t.heap, slotsUsed := t.slotsUsed } : State).setVm t.vm).setTop { g with pc := g.pc + len₂, stack := v.toList ++ g.stack } := by
      refine e3.trans ?_
      rw [hf₂, State.calling_eq h.top, State.setFrames_setFrames, State.setTop_of_frames _ hr']
      rfl
    rw [← ht]
    exact hsteps
  · intro x ho
    subst ho
    have hf₂ : t.frames = .throwing x :: .java g :: below := hend
    have ht : t = ((({ T with heap := t.heap, slotsUsed := t.slotsUsed } : State).setVm t.vm).setTop g).pushFrame (.throwing x) := by
      refine e3.trans ?_
      have hcur : (({ T with heap := t.heap, slotsUsed := t.slotsUsed } : State).setVm t.vm).cur < (({ T with heap := t.heap, slotsUsed := t.slotsUsed } : State).setVm t.vm).threads.size := (Array.getElem?_eq_some_iff.mp hth).1
      rw [hf₂, State.calling_eq h.top, State.setFrames_setFrames, State.setTop_of_frames _ hr', State.pushFrame, State.frames_setFrames _ hcur, State.setFrames_setFrames]
      rfl
    rw [← ht]
    exact hsteps
/-- invokevirtual of a method that may throw -/
theorem tx_runV {cc bytes : ByteArray} {nL maxL index n mc ms : Nat} {own C : String} {y : MethodName} {ret : Option FieldType} {Ts ws : List Cond} {rm : Room} {Pc : Array Value → State → Prop} {Qc : Array Value → State → Outcome → State → Prop} {free : Addr → Prop}
    {b : Addr} {As rest st0 : List Value} {pc : Nat} {ls : Array Slot}
    (S : CallFix p m c cc nL s args Ts own) (hM : tx_Met l y ws rm Pc Qc mc ms free) (cw : CallW R s args own C index y bytes maxL ret ws rm mc ms n) (hp : PreV s H C b Pc As)
    (hn : As.length = n) (hsize : ls.size = nL) (hstack : st0 = As.reverse ++ .ref b :: rest) (hW : 2 * (F0 m pc ls rest).monitorRoom + (rest.map fun v => v.category).sum ≤ 8) (hdg : decode cc pc = .ok (.invokevirtual index, 3)) (hf : cells + mc ≤ R.cells ∧ slots + ms ≤ R.slots)
    (kk : ∀ (o : Outcome) (st t : State) (H1 : Heap) (L : List Loc), st.heap = H → t.heap = H1 → s.vm.Alike t.vm → Qc (Value.ref b :: As).toArray st o t → (∀ q ∈ L, free q.base) →
      (∀ v, o = .returned v → W p l e R s m args below meth c H1 (locs ++ L) (cells + mc) (slots + ms) Q (F0 m (pc + 3) ls (v.toList ++ rest))) ∧
      (∀ x, o = .threw x → tx_V p l e R s m args below meth c H1 (locs ++ L) (cells + mc) (slots + ms) Q (F0 m pc ls rest) x)) :
    W p l e R s m args below meth c H locs cells slots Q (F0 m pc ls st0) := by
  obtain ⟨⟨hrc, hrs, hfr, hlo, hws, hcw, hcode, hini, hy, hlen, hl⟩, hinst, hsel⟩ := cw
  obtain ⟨hexec, hb, hml, hown, -⟩ := S
  obtain ⟨hbl, ⟨cellB, hcB, hoB, hclB⟩, hPc⟩ := hp
  intro T hT X
  obtain ⟨mk, methM, hnamed, hmethM, hstM, habM⟩ := Cond.instanceMethod_spec hinst
  obtain ⟨methM', cM, hmethM', hcM, -, hlM, -, -, -, hsigM⟩ := Cond.code_spec hnamed hcode
  cases hmethM.symm.trans hmethM'
  obtain ⟨c2, r2, m2, q1, q2, q3, q4, kP, hkP, hkPi⟩ := Cond.selects_spec hsel
  cases hclB.symm.trans q1
  cases (State.methodFound?_of_named hnamed hy).symm.trans q2
  cases hnamed.symm.trans q3
  have hselP : selectMethod e.platform s.vm cellB.cls mk = .method mk := by rw [Launch.admits_selectMethod X.admits]; exact q4
  obtain ⟨vm₁, X₁, hstep₁⟩ := X.invokevirtual hexec hown hl hnamed hmethM hstM hkP hkPi hy (a := b) (cell := cellB) (by rw [hT]; exact hcB)
    (fun z h => by rw [h] at hoB; cases hoB) hselP hmethM habM hkP hkPi (g := F0 m pc ls st0) rfl (argsL := As) (rest := rest) (by rw [hn]; exact hlen _ hsigM) hstack (by rw [hb]; exact hdg)
  have hinitP : kP.init = .initialized := Cond.initialized_spec (findClass_of_methodNamed hnamed) hkP hini
  have hal : s.vm.Alike (T.setVm vm₁).vm := X₁.warmed.alike
  obtain ⟨kP', hkP', hke⟩ := hal.2.2 _ _ hkP
  have hPcT : Pc (Value.ref b :: As).toArray ((T.setVm vm₁).calling (F0 m pc ls rest) mk (Value.ref b :: As).toArray) := hbl _ _ _ _ (hPc (T.setVm vm₁) hT X₁.warmed)
  obtain ⟨o, t, T', L, X', hL, hh, hv, hq, hR, hX⟩ := tx_core X₁ (maxL := maxL) hM hrc hrs hfr (mk := mk) (methY := methM) (cY := cM) (kY := kP') (X₁.named hnamed) (by rw [hal.method?]; exact hmethM) hcM hlM hkP' (by rw [hke]; exact hinitP)
    (g := F0 m pc ls rest) rfl (hsize.trans hml.symm) (by rw [hb]; exact hdg) (by have q9 : 2 * (F0 m pc ls rest).monitorRoom + ((F0 m pc ls rest).stack.map fun v => v.category).sum ≤ 8 := hW; omega) hf.1 hf.2 (fun w hw => hws w hw _ _ X₁.warmed) hPcT
  have ha : s.vm.Alike t.vm := by rw [← hv]; exact X'.warmed.alike
  obtain ⟨k1, k2⟩ := kk o _ t t.heap L (show ((T.setVm vm₁).calling (F0 m pc ls rest) mk (Value.ref b :: As).toArray).heap = H from hT) rfl ha hq hL
  cases o with
  | returned v =>
    obtain ⟨u, a1, b1⟩ := k1 v rfl T' hh X'
    exact ⟨u, hstep₁ _ (fun acts => by rw [doInvoke_state]; exact (hR v rfl).trans a1), b1⟩
  | threw x =>
    obtain ⟨u, a1, b1⟩ := k2 x rfl T' hh X'
    exact ⟨u, hstep₁ _ (fun acts => by rw [doInvoke_state]; exact (hX x rfl).trans a1), b1⟩
end TXB
