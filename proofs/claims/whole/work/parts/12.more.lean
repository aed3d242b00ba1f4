/-! a row with a stretch taken out, a row with a number put in -/
theorem q_pred {n : Nat} (h : 0 < n) : nI n - 1 = nI (n - 1) := pk_sub (a := n) (b := 1) h
abbrev ft_rm (Lf : Nat → Nat) (a b : Nat) : Nat → Nat := fun i => if i < a then Lf i else Lf (i + (b - a))
abbrev ft_in (Lf : Nat → Nat) (p n : Nat) : Nat → Nat := fun i => if i < p then Lf i else if i = p then n else Lf (i - 1)
theorem hO_rm {O : Nat → Int32} {Lf : Nat → Nat} {sz : Nat} (hO : ∀ i, i < sz → O i = nI (Lf i) ∧ Lf i < 200) {a b : Nat} (hab : a ≤ b) (hb : b ≤ sz) : ∀ i, i < sz - (b - a) → va_cpy O O b a (sz - b) i = nI (ft_rm Lf a b i) ∧ ft_rm Lf a b i < 200 := by
  intro i hi
  by_cases c : i < a
  · rw [pk_cpy_out (Or.inl c)]
    show O i = nI (if i < a then Lf i else Lf (i + (b - a))) ∧ (if i < a then Lf i else Lf (i + (b - a))) < 200
    rw [if_pos c]
    exact hO i (by omega)
  · rw [pk_cpy_in (by omega) (by omega)]
    show O (b + (i - a)) = nI (if i < a then Lf i else Lf (i + (b - a))) ∧ (if i < a then Lf i else Lf (i + (b - a))) < 200
    rw [if_neg c]
    have e : b + (i - a) = i + (b - a) := by omega
    rw [e]
    exact hO _ (by omega)
theorem hO_in {O : Nat → Int32} {Lf : Nat → Nat} {sz : Nat} (hO : ∀ i, i < sz → O i = nI (Lf i) ∧ Lf i < 200) {q n : Nat} (hq : q ≤ sz) (hn : n < 200) : ∀ i, i < sz + 1 → upd (va_cpy O O q (q + 1) (sz - q)) q (nI n) i = nI (ft_in Lf q n i) ∧ ft_in Lf q n i < 200 := by
  intro i hi
  show upd (va_cpy O O q (q + 1) (sz - q)) q (nI n) i = nI (if i < q then Lf i else if i = q then n else Lf (i - 1)) ∧ (if i < q then Lf i else if i = q then n else Lf (i - 1)) < 200
  rcases Nat.lt_trichotomy i q with c | c | c
  · rw [pk_un (by omega), pk_cpy_out (Or.inl (by omega)), if_pos c]
    exact hO i (by omega)
  · subst c
    rw [pk_us, if_neg (by omega), if_pos rfl]
    exact ⟨rfl, hn⟩
  · rw [pk_un (by omega), pk_cpy_in (by omega) (by omega), if_neg (by omega), if_neg (by omega)]
    have e : q + (i - (q + 1)) = i - 1 := by omega
    rw [e]
    exact hO _ (by omega)
