/-! pure rows: sums over the first n, a list of numbers in an order against all numbers, the first place that fails, folds -/
def ft_sum {α : Type} (op : α → α → α) (z : α) (f : Nat → α) : Nat → α
  | 0 => z
  | n + 1 => op (ft_sum op z f n) (f n)
theorem ft_sum_congr {α : Type} {op : α → α → α} {z : α} {f g : Nat → α} {n : Nat} (h : ∀ i, i < n → f i = g i) : ft_sum op z f n = ft_sum op z g n := by
  induction n with
  | zero => rfl
  | succ n ih =>
    show op (ft_sum op z f n) (f n) = op (ft_sum op z g n) (g n)
    rw [ih (fun i hi => h i (by omega)), h n (by omega)]
theorem ft_sum_zero {α : Type} {op : α → α → α} {z : α} {f : Nat → α} {n : Nat} (hz : op z z = z) (h : ∀ i, i < n → f i = z) : ft_sum op z f n = z := by
  induction n with
  | zero => rfl
  | succ n ih =>
    show op (ft_sum op z f n) (f n) = z
    rw [ih (fun i hi => h i (by omega)), h n (by omega), hz]
theorem ft_sum_out {α : Type} {op : α → α → α} {z : α} (hc : ∀ a b, op a b = op b a) (ha : ∀ a b c, op (op a b) c = op a (op b c)) (hz : ∀ a, op a z = a) (f : Nat → α) (a : Nat) :
    ∀ n, a < n → ft_sum op z f n = op (ft_sum op z (fun i => if i = a then z else f i) n) (f a) := by
  intro n
  induction n with
  | zero => intro h; omega
  | succ n ih =>
    intro h
    show op (ft_sum op z f n) (f n) = op (op (ft_sum op z (fun i => if i = a then z else f i) n) (if n = a then z else f n)) (f a)
    by_cases e : n = a
    · have e2 : ft_sum op z f n = ft_sum op z (fun i => if i = a then z else f i) n := ft_sum_congr (fun i hi => by rw [if_neg (by omega)])
      rw [if_pos e, hz, ← e2, e]
    · rw [if_neg e, ih (by omega), ha, hc (f a) (f n), ← ha]
theorem ft_perm {α : Type} {op : α → α → α} {z : α} (hc : ∀ a b, op a b = op b a) (ha : ∀ a b c, op (op a b) c = op a (op b c)) (hz : ∀ a, op a z = a) (f : Nat → α) (N : Nat) :
    ∀ (sz : Nat) (T : Nat → Bool) (Lf : Nat → Nat), (∀ i, i < sz → Lf i < N ∧ T (Lf i) = true) → (∀ n, n < N → T n = true → ∃ i, i < sz ∧ Lf i = n) → (∀ i j, i < j → j < sz → Lf i ≠ Lf j) →
      ft_sum op z (fun i => f (Lf i)) sz = ft_sum op z (fun n => if T n = true then f n else z) N := by
  intro sz
  induction sz with
  | zero =>
    intro T Lf _ h2 _
    refine (ft_sum_zero (hz z) (fun n hn => ?_)).symm
    rw [if_neg]
    intro ht
    obtain ⟨i, hi, _⟩ := h2 n hn ht
    omega
  | succ k ih =>
    intro T Lf h1 h2 h3
    have hk := h1 k (by omega)
    rw [ft_sum_out hc ha hz (fun n => if T n = true then f n else z) (Lf k) N hk.1]
    show op (ft_sum op z (fun i => f (Lf i)) k) (f (Lf k)) = op (ft_sum op z (fun i => if i = Lf k then z else if T i = true then f i else z) N) (if T (Lf k) = true then f (Lf k) else z)
    have e2 := ih (fun n => if n = Lf k then false else T n) Lf (fun i hi => ⟨(h1 i (by omega)).1, by
        show (if Lf i = Lf k then false else T (Lf i)) = true
        rw [if_neg (h3 i k hi (by omega))]
        exact (h1 i (by omega)).2⟩) (fun n hn ht => by
        have ht : (if n = Lf k then false else T n) = true := ht
        by_cases e : n = Lf k
        · rw [if_pos e] at ht
          cases ht
        · rw [if_neg e] at ht
          obtain ⟨i, hi, hi2⟩ := h2 n hn ht
          refine ⟨i, ?_, hi2⟩
          by_cases e3 : i = k
          · exact absurd (by rw [← hi2, e3]) e
          · omega) (fun i j hi hj => h3 i j hi (by omega))
    rw [e2, if_pos hk.2]
    refine congrArg (fun q => op q (f (Lf k))) (ft_sum_congr (fun n _ => ?_))
    by_cases e : n = Lf k
    · simp [e]
    · simp [e]
theorem ft_sum_one (n : Nat) : ft_sum (fun a b : Nat => a + b) 0 (fun _ => 1) n = n := by
  induction n with
  | zero => rfl
  | succ n ih =>
    show ft_sum (fun a b : Nat => a + b) 0 (fun _ => 1) n + 1 = n + 1
    rw [ih]
/-- a fold from below -/
def ft_gf {α : Type} (step : Nat → α → α) (a0 : α) : Nat → α
  | 0 => a0
  | n + 1 => step n (ft_gf step a0 n)
theorem ft_gf_sum {α : Type} {op : α → α → α} {z : α} (hz : ∀ a, op a z = a) (P : Nat → Bool) (f : Nat → α) (n : Nat) :
    ft_gf (fun k acc => if P k = true then op acc (f k) else acc) z n = ft_sum op z (fun k => if P k = true then f k else z) n := by
  induction n with
  | zero => rfl
  | succ n ih =>
    show (if P n = true then op (ft_gf _ z n) (f n) else ft_gf _ z n) = op (ft_sum op z _ n) (if P n = true then f n else z)
    by_cases h : P n = true
    · rw [if_pos h, if_pos h, ih]
    · rw [if_neg h, if_neg h, ih, hz]
/-- the first place from i on, k more at the most, at which P fails -/
def ft_fb (P : Nat → Bool) : Nat → Nat → Nat
  | 0, i => i
  | k + 1, i => if P i = true then ft_fb P k (i + 1) else i
theorem ft_fb_spec (P : Nat → Bool) : ∀ k i, i ≤ ft_fb P k i ∧ ft_fb P k i ≤ i + k ∧ (∀ j, i ≤ j → j < ft_fb P k i → P j = true) ∧ (ft_fb P k i < i + k → P (ft_fb P k i) = false) := by
  intro k
  induction k with
  | zero =>
    intro i
    refine ⟨Nat.le_refl _, Nat.le_refl _, fun j h1 h2 => ?_, fun h => ?_⟩
    · have h2 : j < i := h2
      omega
    · have h : i < i + 0 := h
      omega
  | succ k ih =>
    intro i
    by_cases h : P i = true
    · have e : ft_fb P (k + 1) i = ft_fb P k (i + 1) := by
        show (if P i = true then ft_fb P k (i + 1) else i) = _
        rw [if_pos h]
      rw [e]
      obtain ⟨h1, h2, h3, h4⟩ := ih (i + 1)
      refine ⟨by omega, by omega, fun j hj hj2 => ?_, fun hh => h4 (by omega)⟩
      by_cases ej : j = i
      · rw [ej]; exact h
      · exact h3 j (by omega) hj2
    · have e : ft_fb P (k + 1) i = i := by
        show (if P i = true then ft_fb P k (i + 1) else i) = _
        rw [if_neg h]
      rw [e]
      refine ⟨Nat.le_refl _, by omega, fun j h1 h2 => by omega, fun _ => by simpa using h⟩
theorem ft_fb_congr {P P' : Nat → Bool} : ∀ k i, (∀ j, i ≤ j → j < i + k → P j = P' j) → ft_fb P k i = ft_fb P' k i := by
  intro k
  induction k with
  | zero => intro i _; rfl
  | succ k ih =>
    intro i h
    show (if P i = true then ft_fb P k (i + 1) else i) = (if P' i = true then ft_fb P' k (i + 1) else i)
    rw [h i (Nat.le_refl _) (by omega), ih (i + 1) (fun j h1 h2 => h j (by omega) (by omega))]
/-- it is the one place with all before it good and itself, if it is one, bad -/
theorem ft_fb_eq {P : Nat → Bool} {n p : Nat} (hp : p ≤ n) (h1 : ∀ j, j < p → P j = true) (h2 : p < n → P p = false) : ft_fb P n 0 = p := by
  obtain ⟨_, b2, b3, b4⟩ := ft_fb_spec P n 0
  by_cases c : ft_fb P n 0 < p
  · have := h1 _ c
    rw [b4 (by omega)] at this
    cases this
  · by_cases c2 : p < ft_fb P n 0
    · have := b3 p (by omega) c2
      rw [h2 (by omega)] at this
      cases this
    · omega
