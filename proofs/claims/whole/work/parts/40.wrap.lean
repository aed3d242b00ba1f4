/-! the law's wrappers: the class's cells and the cell of the answer -/
abbrev wOut (oo : Nat) (Co : ClassId) (f : Nat → Int64) : Nat × va_E := (oo, .inl (Co, 1, .inr (.inl f)))
abbrev wXo (a : Nat → Nat) (C : Nat → ClassId) (K D : Nat → Int64) (Wt O : Nat → Int32) (n : Int32) (oo : Nat) (Co : ClassId) (f : Nat → Int64) : va_W :=
  [(a 0, .inr (0, [.ref (a 1), .ref (a 2), .ref (a 3), .ref (a 4), .int n])), (a 1, .inl (C 1, 200, .inr (.inl K))), (a 2, .inl (C 2, 200, .inr (.inl D))), (a 3, .inl (C 3, 200, .inl Wt)), (a 4, .inl (C 4, 200, .inl O)), wOut oo Co f]
abbrev tXo (C : Nat → ClassId) (Co : ClassId) : List (ClassId × FieldType) := [(C 1, .long), (C 2, .long), (C 3, .int), (C 4, .int), (Co, .long)]
/-- what may change -/
def aXo (a : Nat → Nat) (oo : Nat) : Nat → Prop := fun q => (∃ i, i < 5 ∧ q = a i) ∨ q = oo
/-- the six addresses are apart -/
def apXo (a : Nat → Nat) (oo : Nat) : Prop := (∀ i j, i < 5 → j < 5 → a i = a j → i = j) ∧ ∀ i, i < 5 → a i ≠ oo
def bXo (G : va_G) (a : Nat → Nat) (C : Nat → ClassId) (K D : Nat → Int64) (Wt O : Nat → Int32) (n : Int32) (oo : Nat) (Co : ClassId) (f : Nat → Int64) (U : State) : Prop :=
  (va_P G vwCl (wXo a C K D Wt O n oo Co f) U.heap ∧ va_K G vwCl (tXo C Co) U) ∧ tx_G U ∧ va_Nc EIA ENS U
theorem bXo_blind {G : va_G} {a : Nat → Nat} {C : Nat → ClassId} {K D : Nat → Int64} {Wt O : Nat → Int32} {n : Int32} {oo : Nat} {Co : ClassId} {f : Nat → Int64} {av : List Value} : FrameBlind (va_Pc av (bXo G a C K D Wt O n oo Co f)) :=
  fun v U g mk q => ⟨q.1, ⟨q.2.1.1, va_K.moved (u := U) (U := U.calling g mk v) (Vm.Alike.refl U.vm) q.2.1.2⟩, tx_G_moved (s := U) (U := U.calling g mk v) q.2.2.1 rfl (Vm.Alike.refl U.vm), va_Nc.moved (u := U) (U := U.calling g mk v) (Vm.Alike.refl U.vm) q.2.2.2⟩
theorem dXo {a : Nat → Nat} {oo : Nat} (hap : apXo a oo) (C : Nat → ClassId) (K D : Nat → Int64) (Wt O : Nat → Int32) (n : Int32) (Co : ClassId) (f : Nat → Int64) : va_D (aXo a oo) (wXo a C K D Wt O n oo Co f) := by
  have key : ∀ (k : Nat) (q : Nat × va_E), (wXo a C K D Wt O n oo Co f)[k]? = some q → (k < 5 ∧ q.1 = a k) ∨ (k = 5 ∧ q.1 = oo) := by
    intro k q hq
    match k, hq with
    | 0, hq => cases hq; exact Or.inl ⟨by omega, rfl⟩
    | 1, hq => cases hq; exact Or.inl ⟨by omega, rfl⟩
    | 2, hq => cases hq; exact Or.inl ⟨by omega, rfl⟩
    | 3, hq => cases hq; exact Or.inl ⟨by omega, rfl⟩
    | 4, hq => cases hq; exact Or.inl ⟨by omega, rfl⟩
    | 5, hq => cases hq; exact Or.inr ⟨rfl, rfl⟩
    | k + 6, hq => simp at hq
  refine ⟨fun i j x y hx hy e => ?_, fun k q hq => ?_⟩
  · rcases key i x hx with ⟨i5, ex⟩ | ⟨i5, ex⟩
    · rcases key j y hy with ⟨j5, ey⟩ | ⟨j5, ey⟩
      · exact hap.1 i j i5 j5 (by rw [← ex, ← ey]; exact e)
      · exact absurd (by rw [← ex, ← ey]; exact e) (hap.2 i i5)
    · rcases key j y hy with ⟨j5, ey⟩ | ⟨j5, ey⟩
      · exact absurd (by rw [← ex, ← ey]; exact e.symm) (hap.2 j j5)
      · omega
  · rcases key k q hq with ⟨k5, e⟩ | ⟨k5, e⟩
    · exact Or.inl ⟨k, k5, e⟩
    · exact Or.inr e
/-- the class's own cells -/
def aX5 (a : Nat → Nat) : Nat → Prop := fun q => ∃ i, i < 5 ∧ q = a i
theorem dX5 {a : Nat → Nat} (h1 : ∀ i j, i < 5 → j < 5 → a i = a j → i = j) : ∀ (C : Nat → ClassId) (K D : Nat → Int64) (Wt O : Nat → Int32) (n : Int32), va_D (aX5 a) (wX a C K D Wt O n) := fun C K D Wt O n => dX h1 (fun i hi => ⟨i, hi, rfl⟩) C K D Wt O n
/-- old cells as they were: the six cells too -/
theorem keepXo {G : va_G} {a : Nat → Nat} {C : Nat → ClassId} {K D : Nat → Int64} {Wt O : Nat → Int32} {n : Int32} {oo : Nat} {Co : ClassId} {f : Nat → Int64} {H H1 : Heap} (hP : va_P G vwCl (wXo a C K D Wt O n oo Co f) H) (hh : ∀ q : Nat, q < H.size → H1[q]? = H[q]?) : va_P G vwCl (wXo a C K D Wt O n oo Co f) H1 := by
  refine va_P.kept hP (fun k q hk => hh q.1 ?_)
  have h1 := hP k q hk
  unfold va_at at h1
  cases hq : q.2 with
  | inl z => rw [hq] at h1; exact (Array.getElem?_eq_some_iff.mp h1).1
  | inr z =>
    rw [hq] at h1
    obtain ⟨r, _, h2⟩ := h1
    obtain ⟨cell9, h3, _⟩ := h2
    exact (Array.getElem?_eq_some_iff.mp h3).1
