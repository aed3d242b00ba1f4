/-! the class's cells: the object and its four arrays; K keys, D dues, Wt weights, O the row, n its length -/
abbrev wX (a : Nat → Nat) (C : Nat → ClassId) (K D : Nat → Int64) (Wt O : Nat → Int32) (n : Int32) : va_W :=
  [(a 0, .inr (0, [.ref (a 1), .ref (a 2), .ref (a 3), .ref (a 4), .int n])), (a 1, .inl (C 1, 200, .inr (.inl K))), (a 2, .inl (C 2, 200, .inr (.inl D))), (a 3, .inl (C 3, 200, .inl Wt)), (a 4, .inl (C 4, 200, .inl O))]
abbrev tX (C : Nat → ClassId) : List (ClassId × FieldType) := [(C 1, .long), (C 2, .long), (C 3, .int), (C 4, .int)]
def rX (G : va_G) (a : Nat → Nat) (C : Nat → ClassId) (K D : Nat → Int64) (Wt O : Nat → Int32) (n : Int32) (U : State) : Prop := va_P G vwCl (wX a C K D Wt O n) U.heap ∧ va_K G vwCl (tX C) U
theorem rX_blind {G : va_G} {a : Nat → Nat} {C : Nat → ClassId} {K D : Nat → Int64} {Wt O : Nat → Int32} {n : Int32} {av : List Value} : FrameBlind (va_Pc av (rX G a C K D Wt O n)) :=
  fun v U g mk q => ⟨q.1, q.2.1, va_K.moved (u := U) (U := U.calling g mk v) (Vm.Alike.refl U.vm) q.2.2⟩
theorem pX_V {G : va_G} {a : Nat → Nat} {C : Nat → ClassId} {K D : Nat → Int64} {Wt O : Nat → Int32} {n : Int32} {s : State} {H : Heap} {As : List Value} (hP : va_P G vwCl (wX a C K D Wt O n) H) (hK : va_K G vwCl (tX C) s) :
    PreV s H RX0 (a 0) (va_Pc (.ref (a 0) :: As) (rX G a C K D Wt O n)) As :=
  ⟨rX_blind, va_recv (q0 := 0) hK hP rfl rfl, fun U hU hW => ⟨rfl, by rw [hU]; exact hP, va_K.moved hW.alike hK⟩⟩
/-- the five addresses are apart and lie in A, whatever the cells hold -/
theorem dX {A : Nat → Prop} {a : Nat → Nat} (h1 : ∀ i j, i < 5 → j < 5 → a i = a j → i = j) (h2 : ∀ i, i < 5 → A (a i)) (C : Nat → ClassId) (K D : Nat → Int64) (Wt O : Nat → Int32) (n : Int32) : va_D A (wX a C K D Wt O n) := by
  have key : ∀ (k : Nat) (q : Nat × va_E), (wX a C K D Wt O n)[k]? = some q → k < 5 ∧ q.1 = a k := by
    intro k q hq
    match k, hq with
    | 0, hq => cases hq; exact ⟨by omega, rfl⟩
    | 1, hq => cases hq; exact ⟨by omega, rfl⟩
    | 2, hq => cases hq; exact ⟨by omega, rfl⟩
    | 3, hq => cases hq; exact ⟨by omega, rfl⟩
    | 4, hq => cases hq; exact ⟨by omega, rfl⟩
    | k + 5, hq => simp at hq
  refine ⟨fun i j x y hx hy e => ?_, fun k q hq => ?_⟩
  · obtain ⟨i5, ex⟩ := key i x hx
    obtain ⟨j5, ey⟩ := key j y hy
    exact h1 i j i5 j5 (by rw [← ex, ← ey]; exact e)
  · obtain ⟨k5, e⟩ := key k q hq
    rw [e]
    exact h2 k k5
/-! the reference's cells: the object and its four arrays; T who is there, K keys, D dues, w weights, th what was thrown -/
def ft_tb (T : Nat → Bool) (n : Nat) : Int32 := if T n = true then 1 else 0
theorem ft_tb_t {T : Nat → Bool} {n : Nat} (h : T n = true) : ft_tb T n = 1 := if_pos h
theorem ft_tb_f {T : Nat → Bool} {n : Nat} (h : ¬ T n = true) : ft_tb T n = 0 := if_neg h
abbrev wM (a : Nat → Nat) (C : Nat → ClassId) (T : Nat → Bool) (K D : Nat → Int64) (w : Nat → Int32) (th : Int32) : va_W :=
  [(a 0, .inr (1, [.ref (a 1), .ref (a 2), .ref (a 3), .ref (a 4), .int th])), (a 1, .inl (C 1, 200, .inl (ft_tb T))), (a 2, .inl (C 2, 200, .inr (.inl K))), (a 3, .inl (C 3, 200, .inr (.inl D))), (a 4, .inl (C 4, 200, .inl w))]
abbrev tM (C : Nat → ClassId) : List (ClassId × FieldType) := [(C 1, .boolean), (C 2, .long), (C 3, .long), (C 4, .int)]
def rM (G : va_G) (a : Nat → Nat) (C : Nat → ClassId) (T : Nat → Bool) (K D : Nat → Int64) (w : Nat → Int32) (th : Int32) (U : State) : Prop := va_P G vwCl (wM a C T K D w th) U.heap ∧ va_K G vwCl (tM C) U
theorem rM_blind {G : va_G} {a : Nat → Nat} {C : Nat → ClassId} {T : Nat → Bool} {K D : Nat → Int64} {w : Nat → Int32} {th : Int32} {av : List Value} : FrameBlind (va_Pc av (rM G a C T K D w th)) :=
  fun v U g mk q => ⟨q.1, q.2.1, va_K.moved (u := U) (U := U.calling g mk v) (Vm.Alike.refl U.vm) q.2.2⟩
theorem pM_V {G : va_G} {a : Nat → Nat} {C : Nat → ClassId} {T : Nat → Bool} {K D : Nat → Int64} {w : Nat → Int32} {th : Int32} {s : State} {H : Heap} {As : List Value} (hP : va_P G vwCl (wM a C T K D w th) H) (hK : va_K G vwCl (tM C) s) :
    PreV s H RX1 (a 0) (va_Pc (.ref (a 0) :: As) (rM G a C T K D w th)) As :=
  ⟨rM_blind, va_recv (q0 := 0) hK hP rfl rfl, fun U hU hW => ⟨rfl, by rw [hU]; exact hP, va_K.moved hW.alike hK⟩⟩
theorem dM {A : Nat → Prop} {a : Nat → Nat} (h1 : ∀ i j, i < 5 → j < 5 → a i = a j → i = j) (h2 : ∀ i, i < 5 → A (a i)) (C : Nat → ClassId) (T : Nat → Bool) (K D : Nat → Int64) (w : Nat → Int32) (th : Int32) : va_D A (wM a C T K D w th) := by
  have key : ∀ (k : Nat) (q : Nat × va_E), (wM a C T K D w th)[k]? = some q → k < 5 ∧ q.1 = a k := by
    intro k q hq
    match k, hq with
    | 0, hq => cases hq; exact ⟨by omega, rfl⟩
    | 1, hq => cases hq; exact ⟨by omega, rfl⟩
    | 2, hq => cases hq; exact ⟨by omega, rfl⟩
    | 3, hq => cases hq; exact ⟨by omega, rfl⟩
    | 4, hq => cases hq; exact ⟨by omega, rfl⟩
    | k + 5, hq => simp at hq
  refine ⟨fun i j x y hx hy e => ?_, fun k q hq => ?_⟩
  · obtain ⟨i5, ex⟩ := key i x hx
    obtain ⟨j5, ey⟩ := key j y hy
    exact h1 i j i5 j5 (by rw [← ex, ← ey]; exact e)
  · obtain ⟨k5, e⟩ := key k q hq
    rw [e]
    exact h2 k k5
theorem ft_cnt_t {P : Nat → Bool} {i : Nat} (h : P i = true) : nI (ft_cnt P i) + 1 = nI (ft_cnt P (i + 1)) := by
  have e : ft_cnt P (i + 1) = ft_cnt P i + (if P i = true then 1 else 0) := rfl
  rw [e, if_pos h, nI_succ]
theorem ft_cnt_f {P : Nat → Bool} {i : Nat} (h : ¬ P i = true) : ft_cnt P (i + 1) = ft_cnt P i := by
  have e : ft_cnt P (i + 1) = ft_cnt P i + (if P i = true then 1 else 0) := rfl
  rw [e, if_neg h, Nat.add_zero]
theorem ft_sum_t {α : Type} {op : α → α → α} {z : α} {P : Nat → Bool} {f : Nat → α} {i : Nat} (h : P i = true) : op (ft_sum op z (fun k => if P k = true then f k else z) i) (f i) = ft_sum op z (fun k => if P k = true then f k else z) (i + 1) := by
  show _ = op (ft_sum op z (fun k => if P k = true then f k else z) i) (if P i = true then f i else z)
  rw [if_pos h]
theorem ft_sum_f {α : Type} {op : α → α → α} {z : α} (hz : ∀ a, op a z = a) {P : Nat → Bool} {f : Nat → α} {i : Nat} (h : ¬ P i = true) : ft_sum op z (fun k => if P k = true then f k else z) (i + 1) = ft_sum op z (fun k => if P k = true then f k else z) i := by
  show op (ft_sum op z (fun k => if P k = true then f k else z) i) (if P i = true then f i else z) = _
  rw [if_neg h, hz]
