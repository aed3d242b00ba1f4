/-! invokestatic of a method with a table of handlers -/
section TXD
variable {p : Program} {l : Launch} {e : Env} {R : Room} {s : State} {m : MethodId} {args : Array Value} {below : List Frame} {meth : Method} {c : Code} {H : Heap} {locs : List Loc} {cells slots : Nat} {Q : State → Prop}
theorem tx_runSW {cc bytes : ByteArray} {nL maxL index n mc ms : Nat} {own : String} {y : MethodName} {ret : Option FieldType} {hh : List (Nat × Nat × Nat × Nat)} {Ts ws : List Cond} {rm : Room} {Pc : Array Value → State → Prop} {Qc : Array Value → State → Outcome → State → Prop} {free : Addr → Prop}
    {As rest st0 : List Value} {pc : Nat} {ls : Array Slot}
    (S : CallFix p m c cc nL s args Ts own) (hM : tx_Met l y ws rm Pc Qc mc ms free) (hrc : rm.cells = mc) (hrs : rm.slots = ms) (hR : rm.frames + 1 ≤ R.frames ∧ 8 + (maxL + 11) + rm.locals ≤ R.locals)
    (hG : GoodIn Ts ws) (hcode : (Cond.codeWith y bytes maxL ret hh).before args s = true) (hstat : (Cond.static y).before args s = true) (hini : (Cond.initialized y.cls).before args s = true) (hl : (Cond.methodLink own index y).before args s = true)
    (hd : y.cls ≠ "java/lang/invoke/MethodHandle" ∧ y.cls ≠ "java/lang/invoke/VarHandle" ∧ (parseMethodDescriptor y.desc).map (fun d => d.parameters.length) = some n) (hp : PreS s H Pc As)
    (hn : As.length = n) (hsize : ls.size = nL) (hstack : st0 = As.reverse ++ rest) (hW : 2 * (F0 m pc ls rest).monitorRoom + (rest.map fun v => v.category).sum ≤ 8) (hdg : decode cc pc = .ok (.invokestatic index, 3)) (hf : cells + mc ≤ R.cells ∧ slots + ms ≤ R.slots)
    (kk : ∀ (o : Outcome) (st t : State) (H1 : Heap) (L : List Loc), st.heap = H → t.heap = H1 → s.vm.Alike t.vm → Qc As.toArray st o t → (∀ q ∈ L, free q.base) →
      (∀ v, o = .returned v → W p l e R s m args below meth c H1 (locs ++ L) (cells + mc) (slots + ms) Q (F0 m (pc + 3) ls (v.toList ++ rest))) ∧
      (∀ x, o = .threw x → tx_V p l e R s m args below meth c H1 (locs ++ L) (cells + mc) (slots + ms) Q (F0 m pc ls rest) x)) :
    W p l e R s m args below meth c H locs cells slots Q (F0 m pc ls st0) := by
  obtain ⟨hexec, hb, hml, hown, hts⟩ := S
  intro T hT X
  obtain ⟨mk, methM, cM, hnamed, hmethM, hcM, -, hlM, -, -, -, hsigM⟩ := Cond.codeWith_spec hcode
  have hstatic : methM.isStatic = true := Cond.static_spec hnamed hmethM hstat
  obtain ⟨kP, hkP, -⟩ := className_of_methodNamed hnamed
  have hinitP : kP.init = .initialized := Cond.initialized_spec (findClass_of_methodNamed hnamed) hkP hini
  have hlen : As.length = methM.sig.parameters.length := by
    have h2 := hd.2.2
    rw [hsigM] at h2
    rw [hn]
    exact (Option.some.inj h2).symm
  obtain ⟨vm₁, X₁, hstep₁⟩ := X.invokestatic hexec hown hl hnamed hmethM hstatic hkP hinitP ⟨hd.1, hd.2.1⟩ (g := F0 m pc ls st0) rfl (argsL := As) (rest := rest) hlen hstack (by rw [hb]; exact hdg)
  have hal : s.vm.Alike (T.setVm vm₁).vm := X₁.warmed.alike
  obtain ⟨kP', hkP', hke⟩ := hal.2.2 _ _ hkP
  have hPcT : Pc As.toArray ((T.setVm vm₁).calling (F0 m pc ls rest) mk As.toArray) := hp.1 _ _ _ _ (hp.2 (T.setVm vm₁) hT X₁.warmed)
  obtain ⟨o, t, T', L, X', hL, hh', hv, hq, hRt, hX⟩ := tx_core X₁ (maxL := maxL) hM hrc hrs hR.1 (mk := mk) (methY := methM) (cY := cM) (kY := kP') (X₁.named hnamed) (by rw [hal.method?]; exact hmethM) hcM hlM hkP' (by rw [hke]; exact hinitP)
    (g := F0 m pc ls rest) rfl (hsize.trans hml.symm) (by rw [hb]; exact hdg) (by have q9 : 2 * (F0 m pc ls rest).monitorRoom + ((F0 m pc ls rest).stack.map fun v => v.category).sum ≤ 8 := hW; have := hR.2; omega) hf.1 hf.2 (fun w hw => pay_in hts hG w hw _ _ X₁.warmed) hPcT
  have ha : s.vm.Alike t.vm := by rw [← hv]; exact X'.warmed.alike
  obtain ⟨k1, k2⟩ := kk o _ t t.heap L (show ((T.setVm vm₁).calling (F0 m pc ls rest) mk As.toArray).heap = H from hT) rfl ha hq hL
  cases o with
  | returned v =>
    obtain ⟨u, a1, b1⟩ := k1 v rfl T' hh' X'
    exact ⟨u, hstep₁ _ (fun acts => by rw [doInvoke_state]; exact (hRt v rfl).trans a1), b1⟩
  | threw x =>
    obtain ⟨u, a1, b1⟩ := k2 x rfl T' hh' X'
    exact ⟨u, hstep₁ _ (fun acts => by rw [doInvoke_state]; exact (hX x rfl).trans a1), b1⟩
end TXD
