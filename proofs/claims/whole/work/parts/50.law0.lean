/-! the law's own walk: its state and its calls -/
def ft_lg (x y : Int32) : Int64 := (x.toInt64 <<< ((32 : Int32).toInt64 &&& 63)) ||| (y.toInt64 &&& 4294967295)
def cwt (T : Nat → Bool) (w : Nat → Int32) : Nat → Int32 := fun n => if T n = true then w n else 0
section LWA
variable {p : Program} {l : Launch} {e : Env} {R : Room} {s : State} {m : MethodId} {args : Array Value} {below : List Frame} {meth : Method} {c : Code} {H H0 : Heap} {locs : List Loc} {cells slots : Nat} {Q : State → Prop} {pc : Nat} {ls : Array Slot} {rest : List Value} {cc : ByteArray} {A : Nat → Prop}
theorem q_sld (hexec : p.tables.exec = Jvm.exec) (hb : c.code = cc) {b L : Nat} {xs : Nat → Int32} (hX : va_X b L xs s H0) (hbl : b < H0.size) (hbA : ¬ A b) (hS : va_S A H0 H locs) {i : Int32} (j : Nat) (hi : i = nI j) (hj : j < L) (hL : L < 2 ^ 31) (hdg : decode cc pc = .ok (.iaload, 1))
    (kk : W p l e R s m args below meth c H locs cells slots Q (F0 m (pc + 1) ls (.int (xs j) :: rest))) : W p l e R s m args below meth c H locs cells slots Q (F0 m pc ls (.int i :: .ref b :: rest)) := by
  subst hi
  refine va_sld hexec hb hX hbl hbA hS (vp_in_nI hj hL) hdg ?_
  rw [nI_clamp (by omega)]
  exact kk
theorem sw_call {bytes : ByteArray} {nL maxL index n mc ms : Nat} {own : String} {y : MethodName} {ret : Option FieldType} {hh : List (Nat × Nat × Nat × Nat)} {Ts ws : List Cond} {rm : Room} {Pc : Array Value → State → Prop} {D : va_G} {cl : List vw_C} {v : Option Value} {ws1 : va_W} {A1 : Nat → Prop}
    {As st0 : List Value} (S : CallFix p m c cc nL s args Ts own) (hM : Met l y ws rm Pc (wr_Q D cl v ws1 A1) mc ms A1) (hrc : rm.cells = mc) (hrs : rm.slots = ms) (hR : rm.frames + 1 ≤ R.frames ∧ 8 + (maxL + 11) + rm.locals ≤ R.locals)
    (hG : GoodIn Ts ws) (hcode : (Cond.codeWith y bytes maxL ret hh).before args s = true) (hstat : (Cond.static y).before args s = true) (hini : (Cond.initialized y.cls).before args s = true) (hl : (Cond.methodLink own index y).before args s = true)
    (hd : y.cls ≠ "java/lang/invoke/MethodHandle" ∧ y.cls ≠ "java/lang/invoke/VarHandle" ∧ (parseMethodDescriptor y.desc).map (fun d => d.parameters.length) = some n) (hp : PreS s H Pc As)
    (hn : As.length = n) (hsize : ls.size = nL) (hstack : st0 = As.reverse ++ rest) (hW : 2 * (F0 m pc ls rest).monitorRoom + (rest.map fun v => v.category).sum ≤ 8) (hdg : decode cc pc = .ok (.invokestatic index, 3)) (hf : cells + mc ≤ R.cells ∧ slots + ms ≤ R.slots)
    (hS : va_S A H0 H locs) (hsub : ∀ q, A1 q → A q)
    (kk : ∀ (H1 : Heap) (locs1 : List Loc), va_P D cl ws1 H1 → va_S A H0 H1 locs1 → H.size ≤ H1.size → (∀ q : Nat, q < H.size → ¬ A1 q → H1[q]? = H[q]?) → W p l e R s m args below meth c H1 locs1 (cells + mc) (slots + ms) Q (F0 m (pc + 3) ls (v.toList ++ rest))) :
    W p l e R s m args below meth c H locs cells slots Q (F0 m pc ls st0) := by
  refine tx_runSW S (tx_ofMet hM) hrc hrs hR hG hcode hstat hini hl hd hp hn hsize hstack hW hdg hf (fun o st t H1 L h0 h1 ha hq hL => ?_)
  obtain ⟨ho, hP1, hF⟩ := hq
  subst ho
  subst h1
  have hF1 : H.size ≤ t.heap.size := by rw [← h0]; exact hF.1
  have hF2 : ∀ q : Nat, q < H.size → ¬ A1 q → t.heap[q]? = H[q]? := fun q hq hA => by rw [hF.2 q (by rw [h0]; exact hq) hA, h0]
  refine ⟨fun v9 hv => ?_, fun x hx => by cases hx⟩
  cases hv
  exact kk t.heap (locs ++ L) hP1 ⟨Nat.le_trans hS.1 hF1, fun q hq hA => by
      rw [hF2 q (Nat.lt_of_lt_of_le hq hS.1) (fun z => hA (hsub q z))]
      exact hS.2.1 q hq hA, fun q hq => by
      rcases List.mem_append.mp hq with h | h
      · exact hS.2.2 q h
      · exact hsub _ (hL q h)⟩ hF1 hF2
end LWA
theorem keepM {G : va_G} {a : Nat → Nat} {C : Nat → ClassId} {T : Nat → Bool} {K D : Nat → Int64} {w : Nat → Int32} {th : Int32} {H H1 : Heap} {A1 : Nat → Prop} (hP : va_P G vwCl (wM a C T K D w th) H) (hh : ∀ q : Nat, q < H.size → ¬ A1 q → H1[q]? = H[q]?) (hn : ∀ i, i < 5 → ¬ A1 (a i)) : va_P G vwCl (wM a C T K D w th) H1 := by
  refine va_P.kept hP (fun k q hk => hh q.1 (hP k q hk).lt ?_)
  match k, hk with
  | 0, hk => cases hk; exact hn 0 (by omega)
  | 1, hk => cases hk; exact hn 1 (by omega)
  | 2, hk => cases hk; exact hn 2 (by omega)
  | 3, hk => cases hk; exact hn 3 (by omega)
  | 4, hk => cases hk; exact hn 4 (by omega)
  | k + 5, hk => simp at hk
theorem keepX6 {G : va_G} {a : Nat → Nat} {C : Nat → ClassId} {K D : Nat → Int64} {Wt O : Nat → Int32} {n : Int32} {oo : Nat} {Co : ClassId} {f : Nat → Int64} {H H1 : Heap} {A1 : Nat → Prop} (hP : va_P G vwCl (wXo a C K D Wt O n oo Co f) H) (hh : ∀ q : Nat, q < H.size → ¬ A1 q → H1[q]? = H[q]?) (hn : ∀ q, aXo a oo q → ¬ A1 q) : va_P G vwCl (wXo a C K D Wt O n oo Co f) H1 := by
  refine va_P.kept hP (fun k q hk => hh q.1 (hP k q hk).lt ?_)
  match k, hk with
  | 0, hk => cases hk; exact hn _ (Or.inl ⟨0, by omega, rfl⟩)
  | 1, hk => cases hk; exact hn _ (Or.inl ⟨1, by omega, rfl⟩)
  | 2, hk => cases hk; exact hn _ (Or.inl ⟨2, by omega, rfl⟩)
  | 3, hk => cases hk; exact hn _ (Or.inl ⟨3, by omega, rfl⟩)
  | 4, hk => cases hk; exact hn _ (Or.inl ⟨4, by omega, rfl⟩)
  | 5, hk => cases hk; exact hn _ (Or.inr rfl)
  | k + 6, hk => simp at hk
theorem dM5 {a : Nat → Nat} (h1 : ∀ i j, i < 5 → j < 5 → a i = a j → i = j) : ∀ (C : Nat → ClassId) (T : Nat → Bool) (K D : Nat → Int64) (w : Nat → Int32) (th : Int32), va_D (aX5 a) (wM a C T K D w th) := fun C T K D w th => dM h1 (fun i hi => ⟨i, hi, rfl⟩) C T K D w th
/-- what holds all through the law's loop -/
def LC (p : Program) (s : State) (m : MethodId) (meth : Method) (c : Code) (b L : Nat) (xs : Nat → Int32) (G : va_G) (aX : Nat → Nat) (CX : Nat → ClassId) (aM : Nat → Nat) (CM : Nat → ClassId) (oo : Nat) (Co : ClassId) : Prop :=
  (CallFix p m c cL_law 8 s #[Value.ref b] lw_tbl RL ∧ meth.sig.returnType = some .boolean ∧ meth.locks = false ∧ va_X b L xs s s.heap ∧ b < s.heap.size ∧ L ≤ 3584) ∧
  (va_K G vwCl (tXo CX Co) s ∧ va_K G vwCl (tM CM) s ∧ tx_G2 (fun q => s.heap.size ≤ q) s s.heap ∧ va_Nc EIA ENS s) ∧
  (apXo aX oo ∧ (∀ i j, i < 5 → j < 5 → aM i = aM j → i = j) ∧ (∀ q, aXo aX oo q → ¬ aX5 aM q) ∧ (∀ q, aXo aX oo q → s.heap.size ≤ q) ∧ (∀ q, aX5 aM q → s.heap.size ≤ q))
theorem preXo {G : va_G} {a : Nat → Nat} {C : Nat → ClassId} {K D : Nat → Int64} {Wt O : Nat → Int32} {n : Int32} {oo : Nat} {Co : ClassId} {f : Nat → Int64} {s : State} {H : Heap} {locs : List Loc} {As : List Value} (hP : va_P G vwCl (wXo a C K D Wt O n oo Co f) H) (hK : va_K G vwCl (tXo C Co) s) (hG : tx_G2 (fun q => s.heap.size ≤ q) s s.heap) (hN : va_Nc EIA ENS s) (hS : va_S (fun q => s.heap.size ≤ q) s.heap H locs) :
    PreS s H (va_Pc As (bXo G a C K D Wt O n oo Co f)) As :=
  ⟨bXo_blind, fun U hU hW => ⟨rfl, ⟨by rw [hU]; exact hP, va_K.moved hW.alike hK⟩, by
    unfold tx_G
    rw [hU]
    exact tx_G2_to hG hW.alike (fun b h1 h2 => hS.2.1 b h1 h2) (fun _ z => z.elim), va_Nc.moved hW.alike hN⟩⟩
