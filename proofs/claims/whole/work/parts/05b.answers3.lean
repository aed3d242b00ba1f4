/-! half, nearest, slide, cut -/
theorem ft_gf_init (P : Nat → Bool) (f : Nat → Int64) (a : Int64) (n : Nat) : ft_gf (fun k acc => if P k = true then acc + f k else acc) a n = a + ft_sum (fun a b : Int64 => a + b) 0 (fun k => if P k = true then f k else 0) n := by
  induction n with
  | zero => exact (Int64.add_zero a).symm
  | succ n ih =>
    show (if P n = true then ft_gf (fun k acc => if P k = true then acc + f k else acc) a n + f n else ft_gf (fun k acc => if P k = true then acc + f k else acc) a n) = a + (ft_sum (fun a b : Int64 => a + b) 0 (fun k => if P k = true then f k else 0) n + (if P n = true then f n else 0))
    rw [ih]
    by_cases h : P n = true
    · rw [if_pos h, if_pos h, Int64.add_assoc]
    · rw [if_neg h, if_neg h, Int64.add_zero]
theorem ft_dbl32 {x : Int32} (h1 : 0 ≤ x.toInt) (h2 : x.toInt ≤ 200000) : ((2 : Int32) * x).toInt = 2 * x.toInt := by
  rw [Int32.toInt_mul]
  have e : (2 : Int32).toInt = 2 := by decide
  rw [e]
  exact Int.bmod_eq_of_le (by omega) (by omega)
theorem ft_dbl64 {x : Int64} (h1 : 0 ≤ x.toInt) (h2 : x.toInt ≤ 200000) : ((2 : Int64) * x).toInt = 2 * x.toInt := by
  rw [Int64.toInt_mul]
  have e : (2 : Int64).toInt = 2 := by decide
  rw [e]
  exact Int.bmod_eq_of_le (by omega) (by omega)
/-- the weight up to a number, itself with it, as the reference adds it -/
def ft_upto (T : Nat → Bool) (K : Nat → Int64) (w : Nat → Int32) (m : Nat) : Int64 := ft_gf (fun n acc => if (T n && ft_sb K (K m) (nI m) n) = true then acc + (w n).toInt64 else acc) (w m).toInt64 200
theorem ft_upto_row {T : Nat → Bool} {K : Nat → Int64} {w W : Nat → Int32} {Lf : Nat → Nat} {sz : Nat} (h : ft_iv T K w Lf sz) (hW : ∀ n, T n = true → W n = w n) {i : Nat} (hi : i < sz) :
    ft_upto T K w (Lf i) = (ft_sum (fun a b : Int32 => a + b) 0 (fun j => W (Lf j)) (i + 1)).toInt64 ∧ 0 ≤ (ft_sum (fun a b : Int32 => a + b) 0 (fun j => W (Lf j)) (i + 1)).toInt ∧ (ft_sum (fun a b : Int32 => a + b) 0 (fun j => W (Lf j)) (i + 1)).toInt ≤ 200000 := by
  have hl := ft_iv_le h
  obtain ⟨p, hp, e, e1, _⟩ := ft_rank h (h.2.1 i hi)
  have ep := ft_iv_inj h hp hi e
  obtain ⟨m1, m2, m3⟩ := ft_mono_fb (ft_sb_mono h (K (Lf i)) (nI (Lf i)))
  rw [e1, ep] at m1 m2 m3
  have e2 := ft_iv_pre (op := fun a b : Int64 => a + b) (z := 0) (fun a b => Int64.add_comm a b) (fun a b c => Int64.add_assoc a b c) (fun a => Int64.add_zero a) h (fun n => (w n).toInt64) (ft_sb K (K (Lf i)) (nI (Lf i))) m1 m2 m3
  have hs := ft_small (fun j => W (Lf j)) (i + 1) (by omega) (fun j hj => by
    have t := h.2.1 j (by omega)
    have q := h.1 _ t
    show 0 ≤ (W (Lf j)).toInt ∧ (W (Lf j)).toInt ≤ 1000
    rw [hW _ t]
    omega)
  refine ⟨?_, hs.1, by have := hs.2.1; omega⟩
  unfold ft_upto
  rw [ft_gf_init (fun n => T n && ft_sb K (K (Lf i)) (nI (Lf i)) n) (fun n => (w n).toInt64), ← hs.2.2, ← e2, Int64.add_comm]
  show ft_sum (fun a b : Int64 => a + b) 0 (fun j => (w (Lf j)).toInt64) i + (w (Lf i)).toInt64 = ft_sum (fun a b : Int64 => a + b) 0 (fun j => (W (Lf j)).toInt64) i + (W (Lf i)).toInt64
  rw [hW _ (h.2.1 i hi), ft_sum_congr (f := fun j => (w (Lf j)).toInt64) (g := fun j => (W (Lf j)).toInt64) (fun j hj => by
    show (w (Lf j)).toInt64 = (W (Lf j)).toInt64
    rw [hW _ (h.2.1 j (by omega))])]
def ft_halfP (T : Nat → Bool) (K : Nat → Int64) (w : Nat → Int32) (m : Nat) : Bool := T m && decide (ft_W64 T w ≤ (2 : Int64) * ft_upto T K w m)
theorem ft_halfP_row {T : Nat → Bool} {K : Nat → Int64} {w W : Nat → Int32} {Lf : Nat → Nat} {sz : Nat} (h : ft_iv T K w Lf sz) (hW : ∀ n, T n = true → W n = w n) {i : Nat} (hi : i < sz) :
    ft_halfP T K w (Lf i) = true ↔ ¬ ((2 : Int32) * ft_sum (fun a b : Int32 => a + b) 0 (fun j => W (Lf j)) (i + 1) < ft_sum (fun a b : Int32 => a + b) 0 (fun j => W (Lf j)) sz) := by
  obtain ⟨e, b1, b2⟩ := ft_upto_row h hW hi
  have ew := ft_W_row h hW
  unfold ft_halfP
  rw [h.2.1 i hi, Bool.true_and, decide_eq_true_iff, e, ← ew]
  generalize ft_sum (fun a b : Int32 => a + b) 0 (fun j => W (Lf j)) (i + 1) = x at b1 b2 ⊢
  generalize ft_sum (fun a b : Int32 => a + b) 0 (fun j => W (Lf j)) sz = y
  rw [Int64.le_iff_toInt_le, Int32.lt_iff_toInt_lt, ft_dbl32 b1 b2, ft_dbl64 (by rw [Int32.toInt_toInt64]; exact b1) (by rw [Int32.toInt_toInt64]; exact b2), Int32.toInt_toInt64, Int32.toInt_toInt64]
  omega
theorem ft_half {T : Nat → Bool} {K : Nat → Int64} {w W : Nat → Int32} {Lf : Nat → Nat} {sz : Nat} (h : ft_iv T K w Lf sz) (hW : ∀ n, T n = true → W n = w n) (hs : 0 < sz) :
    ft_fb (fun j => decide ((2 : Int32) * ft_sum (fun a b : Int32 => a + b) 0 (fun j => W (Lf j)) (j + 1) < ft_sum (fun a b : Int32 => a + b) 0 (fun j => W (Lf j)) sz)) (sz - 1) 0 < sz ∧
    ft_gf (ft_mnS (ft_halfP T K w) (fun n b => ft_sb K (K b) (nI b) n)) none 200 = some (Lf (ft_fb (fun j => decide ((2 : Int32) * ft_sum (fun a b : Int32 => a + b) 0 (fun j => W (Lf j)) (j + 1) < ft_sum (fun a b : Int32 => a + b) 0 (fun j => W (Lf j)) sz)) (sz - 1) 0)) := by
  obtain ⟨_, b2, b3, b4⟩ := ft_fb_spec (fun j => decide ((2 : Int32) * ft_sum (fun a b : Int32 => a + b) 0 (fun j => W (Lf j)) (j + 1) < ft_sum (fun a b : Int32 => a + b) 0 (fun j => W (Lf j)) sz)) (sz - 1) 0
  generalize ft_fb (fun j => decide ((2 : Int32) * ft_sum (fun a b : Int32 => a + b) 0 (fun j => W (Lf j)) (j + 1) < ft_sum (fun a b : Int32 => a + b) 0 (fun j => W (Lf j)) sz)) (sz - 1) 0 = p at b2 b3 b4 ⊢
  have hp : p < sz := by omega
  refine ⟨hp, ft_mn_eq (R := ft_bf K) (fun _ => ft_bf_irr) (fun _ _ _ => ft_bf_tr) (fun n b h1 h2 => ft_sb_bf h2 (by omega)) (fun _ _ => ft_bf_tot) (ft_iv_lt h hp) ?_ (fun k hk hP => ?_)⟩
  · rw [ft_halfP_row h hW hp]
    by_cases c : p < sz - 1
    · exact of_decide_eq_false (b4 (by omega))
    · have e : p + 1 = sz := by omega
      obtain ⟨_, q1, q2⟩ := ft_upto_row h hW hp
      rw [e] at q1 q2 ⊢
      rw [Int32.lt_iff_toInt_lt, ft_dbl32 q1 q2]
      omega
  · have hT : T k = true := by
      unfold ft_halfP at hP
      rw [Bool.and_eq_true] at hP
      exact hP.1
    obtain ⟨i, hi, e⟩ := h.2.2.1 k hT
    rw [← e] at hP ⊢
    rw [ft_halfP_row h hW hi] at hP
    by_cases c : i < p
    · exact absurd (of_decide_eq_true (b3 i (by omega) c)) hP
    · intro q
      by_cases e2 : i = p
      · rw [e2] at q; exact ft_bf_irr q
      · exact ft_bf_irr (ft_bf_tr q (h.2.2.2 p i (by omega) hi))
/-- the lesser of two longs, as Math.min has it -/
def ft_min (x y : Int64) : Int64 := if y < x then y else x
theorem ft_min_spec (x y : Int64) : (ft_min x y).toInt ≤ x.toInt ∧ (ft_min x y).toInt ≤ y.toInt ∧ (ft_min x y = x ∨ ft_min x y = y) := by
  unfold ft_min
  by_cases h : y < x
  · rw [if_pos h]
    rw [Int64.lt_iff_toInt_lt] at h
    exact ⟨by omega, by omega, Or.inr rfl⟩
  · rw [if_neg h]
    rw [Int64.lt_iff_toInt_lt] at h
    exact ⟨by omega, by omega, Or.inl rfl⟩
/-- a fold of the least over those with P -/
theorem ft_minf (P : Nat → Bool) (f : Nat → Int64) (a : Int64) : ∀ n, (ft_gf (fun k acc => if P k = true then ft_min acc (f k) else acc) a n).toInt ≤ a.toInt ∧ (∀ k, k < n → P k = true → (ft_gf (fun k acc => if P k = true then ft_min acc (f k) else acc) a n).toInt ≤ (f k).toInt) ∧
    (ft_gf (fun k acc => if P k = true then ft_min acc (f k) else acc) a n = a ∨ ∃ k, k < n ∧ P k = true ∧ ft_gf (fun k acc => if P k = true then ft_min acc (f k) else acc) a n = f k) := by
  intro n
  induction n with
  | zero => exact ⟨Int.le_refl _, fun k hk => by omega, Or.inl rfl⟩
  | succ n ih =>
    have e : ft_gf (fun k acc => if P k = true then ft_min acc (f k) else acc) a (n + 1) = (if P n = true then ft_min (ft_gf (fun k acc => if P k = true then ft_min acc (f k) else acc) a n) (f n) else ft_gf (fun k acc => if P k = true then ft_min acc (f k) else acc) a n) := rfl
    rw [e]
    generalize ft_gf (fun k acc => if P k = true then ft_min acc (f k) else acc) a n = r at ih ⊢
    obtain ⟨h1, h2, h3⟩ := ih
    by_cases c : P n = true
    · rw [if_pos c]
      obtain ⟨m1, m2, m3⟩ := ft_min_spec r (f n)
      refine ⟨by omega, fun k hk hP => ?_, ?_⟩
      · by_cases ek : k = n
        · rw [ek]; exact m2
        · have := h2 k (by omega) hP
          omega
      · rcases m3 with q | q
        · rw [q]
          rcases h3 with q2 | ⟨k, k1, k2, k3⟩
          · exact Or.inl q2
          · exact Or.inr ⟨k, by omega, k2, k3⟩
        · exact Or.inr ⟨n, by omega, c, q⟩
    · rw [if_neg c]
      refine ⟨h1, fun k hk hP => ?_, ?_⟩
      · by_cases ek : k = n
        · rw [ek] at hP; exact absurd hP c
        · exact h2 k (by omega) hP
      · rcases h3 with q2 | ⟨k, k1, k2, k3⟩
        · exact Or.inl q2
        · exact Or.inr ⟨k, by omega, k2, k3⟩
def ft_dist (K : Nat → Int64) (a b : Nat) : Int64 := if K a < K b then K b - K a else K a - K b
def ft_near (T : Nat → Bool) (K : Nat → Int64) (n : Nat) : Int64 := ft_gf (fun a acc => if T a = true then ft_gf (fun b acc2 => if T b = true then ft_min acc2 (ft_dist K a b) else acc2) acc a else acc) 9223372036854775807 n
theorem ft_near_spec (T : Nat → Bool) (K : Nat → Int64) : ∀ n, (∀ a b, b < a → a < n → T a = true → T b = true → (ft_near T K n).toInt ≤ (ft_dist K a b).toInt) ∧
    (ft_near T K n = 9223372036854775807 ∨ ∃ a b, b < a ∧ a < n ∧ T a = true ∧ T b = true ∧ ft_near T K n = ft_dist K a b) := by
  intro n
  induction n with
  | zero => exact ⟨fun a b _ h => by omega, Or.inl rfl⟩
  | succ n ih =>
    have e : ft_near T K (n + 1) = (if T n = true then ft_gf (fun b acc2 => if T b = true then ft_min acc2 (ft_dist K n b) else acc2) (ft_near T K n) n else ft_near T K n) := rfl
    rw [e]
    generalize ft_near T K n = r at ih ⊢
    obtain ⟨h1, h2⟩ := ih
    by_cases c : T n = true
    · rw [if_pos c]
      obtain ⟨m1, m2, m3⟩ := ft_minf T (fun b => ft_dist K n b) r n
      refine ⟨fun a b hb ha ta tb => ?_, ?_⟩
      · by_cases ea : a = n
        · rw [ea] at hb ⊢
          exact m2 b hb tb
        · have := h1 a b hb (by omega) ta tb
          omega
      · rcases m3 with q | ⟨k, k1, k2, k3⟩
        · rw [q]
          rcases h2 with q2 | ⟨a, b, x1, x2, x3, x4, x5⟩
          · exact Or.inl q2
          · exact Or.inr ⟨a, b, x1, by omega, x3, x4, x5⟩
        · exact Or.inr ⟨n, k, k1, by omega, c, k2, k3⟩
    · rw [if_neg c]
      refine ⟨fun a b hb ha ta tb => ?_, ?_⟩
      · by_cases ea : a = n
        · rw [ea] at ta; exact absurd ta c
        · exact h1 a b hb (by omega) ta tb
      · rcases h2 with q2 | ⟨a, b, x1, x2, x3, x4, x5⟩
        · exact Or.inl q2
        · exact Or.inr ⟨a, b, x1, by omega, x3, x4, x5⟩
theorem ft_dist_row {T : Nat → Bool} {K : Nat → Int64} {w : Nat → Int32} {Lf : Nat → Nat} {sz : Nat} (h : ft_iv T K w Lf sz) {i j : Nat} (hij : i < j) (hj : j < sz) :
    (ft_dist K (Lf i) (Lf j)).toInt = (K (Lf j)).toInt - (K (Lf i)).toInt ∧ (ft_dist K (Lf j) (Lf i)).toInt = (K (Lf j)).toInt - (K (Lf i)).toInt ∧ (K (Lf j) - K (Lf i)).toInt = (K (Lf j)).toInt - (K (Lf i)).toInt ∧ (K (Lf i)).toInt ≤ (K (Lf j)).toInt := by
  have qi := h.1 _ (h.2.1 i (by omega))
  have qj := h.1 _ (h.2.1 j hj)
  have hb := h.2.2.2 i j hij hj
  have hle : (K (Lf i)).toInt ≤ (K (Lf j)).toInt := by
    unfold ft_bf at hb
    simp only [Int64.lt_iff_toInt_lt, ← Int64.toInt_inj] at hb
    omega
  have e1 : (K (Lf j) - K (Lf i)).toInt = (K (Lf j)).toInt - (K (Lf i)).toInt := ft_sub64 (by omega) (by omega)
  have e2 : (K (Lf i) - K (Lf j)).toInt = (K (Lf i)).toInt - (K (Lf j)).toInt := ft_sub64 (by omega) (by omega)
  unfold ft_dist
  refine ⟨?_, ?_, e1, hle⟩
  · by_cases c : K (Lf i) < K (Lf j)
    · rw [if_pos c, e1]
    · rw [if_neg c, e2]
      rw [Int64.lt_iff_toInt_lt] at c
      omega
  · by_cases c : K (Lf j) < K (Lf i)
    · rw [if_pos c, e2]
      rw [Int64.lt_iff_toInt_lt] at c
      omega
    · rw [if_neg c, e1]
theorem ft_nearest {T : Nat → Bool} {K : Nat → Int64} {w : Nat → Int32} {Lf : Nat → Nat} {sz : Nat} (h : ft_iv T K w Lf sz) (hs : 2 ≤ sz) :
    ft_gf (fun i acc => ft_min acc (K (Lf (i + 2)) - K (Lf (i + 1)))) (K (Lf 1) - K (Lf 0)) (sz - 2) = ft_near T K 200 := by
  have hr := ft_minf (fun _ => true) (fun i => K (Lf (i + 2)) - K (Lf (i + 1))) (K (Lf 1) - K (Lf 0)) (sz - 2)
  have e0 : ft_gf (fun i acc => ft_min acc (K (Lf (i + 2)) - K (Lf (i + 1)))) (K (Lf 1) - K (Lf 0)) (sz - 2) = ft_gf (fun k acc => if (fun _ => true) k = true then ft_min acc ((fun i => K (Lf (i + 2)) - K (Lf (i + 1))) k) else acc) (K (Lf 1) - K (Lf 0)) (sz - 2) := by
    congr 1
  rw [e0]
  generalize ft_gf (fun k acc => if (fun _ => true) k = true then ft_min acc ((fun i => K (Lf (i + 2)) - K (Lf (i + 1))) k) else acc) (K (Lf 1) - K (Lf 0)) (sz - 2) = r at hr ⊢
  obtain ⟨r1, r2, r3⟩ := hr
  obtain ⟨n1, n2⟩ := ft_near_spec T K 200
  generalize ft_near T K 200 = q at n1 n2 ⊢
  have step : ∀ i, i + 1 < sz → r.toInt ≤ (K (Lf (i + 1))).toInt - (K (Lf i)).toInt := fun i hi => by
    have d := (ft_dist_row h (i := i) (j := i + 1) (by omega) hi).2.2.1
    by_cases c : i = 0
    · subst c
      rw [← d]
      exact r1
    · have := r2 (i - 1) (by omega) rfl
      have e : i - 1 + 2 = i + 1 := by omega
      have e' : i - 1 + 1 = i := by omega
      simp only [e, e'] at this
      omega
  have pair : ∀ i j, i < j → j < sz → r.toInt ≤ (K (Lf j)).toInt - (K (Lf i)).toInt := fun i j hij hj => by
    have s1 := step i (by omega)
    by_cases c : i + 1 = j
    · rw [← c]; exact s1
    · have := (ft_dist_row h (i := i + 1) (j := j) (by omega) hj).2.2.2
      omega
  have qle : ∀ i j, i < j → j < sz → q.toInt ≤ (K (Lf j)).toInt - (K (Lf i)).toInt := fun i j hij hj => by
    obtain ⟨d1, d2, _, _⟩ := ft_dist_row h hij hj
    have ti := h.2.1 i (by omega)
    have tj := h.2.1 j hj
    rcases Nat.lt_trichotomy (Lf i) (Lf j) with c | c | c
    · have := n1 _ _ c (ft_iv_lt h hj) tj ti
      omega
    · exact absurd c (ft_iv_ne h hij hj)
    · have := n1 _ _ c (ft_iv_lt h (by omega)) ti tj
      omega
  apply Int64.toInt_inj.mp
  have le1 : q.toInt ≤ r.toInt := by
    rcases r3 with e | ⟨k, k1, _, e⟩
    · have := qle 0 1 (by omega) (by omega)
      rw [e, (ft_dist_row h (i := 0) (j := 1) (by omega) (by omega)).2.2.1]
      exact this
    · have := qle (k + 1) (k + 2) (by omega) (by omega)
      rw [e]
      show q.toInt ≤ (K (Lf (k + 2)) - K (Lf (k + 1))).toInt
      rw [(ft_dist_row h (i := k + 1) (j := k + 2) (by omega) (by omega)).2.2.1]
      exact this
  have le2 : r.toInt ≤ q.toInt := by
    rcases n2 with e | ⟨a, b, x1, x2, ta, tb, e⟩
    · rw [e]
      have := r.toInt_lt
      have e9 : (9223372036854775807 : Int64).toInt = 9223372036854775807 := by decide
      omega
    · obtain ⟨i, hi, ei⟩ := h.2.2.1 a ta
      obtain ⟨j, hj, ej⟩ := h.2.2.1 b tb
      rw [e, ← ei, ← ej]
      rcases Nat.lt_trichotomy i j with c | c | c
      · rw [(ft_dist_row h c hj).1]
        exact pair i j c hj
      · rw [c, ej] at ei
        omega
      · rw [(ft_dist_row h c hi).2.1]
        exact pair j i c hi
  omega
/-- slide: the row's two ends say it for all -/
def ft_slP (T : Nat → Bool) (K : Nat → Int64) (y : Int64) (k : Nat) : Bool := !(T k && (decide ((8796093022208 : Int64) < y) || decide (y < -8796093022208) || decide (K k + y < -2199023255552) || decide ((2199023255552 : Int64) < K k + y)))
theorem ft_slP_iff {T : Nat → Bool} {K : Nat → Int64} {w : Nat → Int32} {Lf : Nat → Nat} {sz : Nat} (h : ft_iv T K w Lf sz) {y : Int64} {k : Nat} (hk : T k = true) :
    ft_slP T K y k = true ↔ -2199023255552 ≤ (K k).toInt + y.toInt ∧ (K k).toInt + y.toInt ≤ 2199023255552 := by
  have q := h.1 k hk
  have e1 : (8796093022208 : Int64).toInt = 8796093022208 := by decide
  have e2 : (-8796093022208 : Int64).toInt = -8796093022208 := by decide
  have e3 : (2199023255552 : Int64).toInt = 2199023255552 := by decide
  have e4 : (-2199023255552 : Int64).toInt = -2199023255552 := by decide
  unfold ft_slP
  rw [hk]
  simp only [Bool.true_and, Bool.not_eq_true', Bool.or_eq_false_iff, decide_eq_false_iff_not, Int64.lt_iff_toInt_lt, e1, e2, e3, e4]
  constructor
  · rintro ⟨⟨⟨a, b⟩, c⟩, d⟩
    have e : (K k + y).toInt = (K k).toInt + y.toInt := ft_add64 (by omega) (by omega)
    omega
  · intro ⟨a, b⟩
    have e : (K k + y).toInt = (K k).toInt + y.toInt := ft_add64 (by omega) (by omega)
    omega
theorem ft_slide_in {T : Nat → Bool} {K : Nat → Int64} {w : Nat → Int32} {Lf : Nat → Nat} {sz : Nat} (h : ft_iv T K w Lf sz) (hs : 0 < sz) {y : Int64} (h1 : ¬ y < (-2199023255552 : Int64) - K (Lf 0)) (h2 : ¬ (2199023255552 : Int64) - K (Lf (sz - 1)) < y) :
    (∀ n, T n = true → -2199023255552 ≤ (K n).toInt + y.toInt ∧ (K n).toInt + y.toInt ≤ 2199023255552) ∧ ft_fb (ft_slP T K y) 200 0 = 200 := by
  have q0 := h.1 _ (h.2.1 0 hs)
  have q1 := h.1 _ (h.2.1 (sz - 1) (by omega))
  have e3 : (2199023255552 : Int64).toInt = 2199023255552 := by decide
  have e4 : (-2199023255552 : Int64).toInt = -2199023255552 := by decide
  rw [Int64.lt_iff_toInt_lt, ft_sub64 (by rw [e4]; omega) (by rw [e4]; omega), e4] at h1
  rw [Int64.lt_iff_toInt_lt, ft_sub64 (by rw [e3]; omega) (by rw [e3]; omega), e3] at h2
  have key : ∀ n, T n = true → -2199023255552 ≤ (K n).toInt + y.toInt ∧ (K n).toInt + y.toInt ≤ 2199023255552 := fun n hn => by
    obtain ⟨i, hi, e⟩ := h.2.2.1 n hn
    have l1 : (K (Lf 0)).toInt ≤ (K (Lf i)).toInt := by
      by_cases c : i = 0
      · rw [c]; exact Int.le_refl _
      · exact (ft_dist_row h (i := 0) (j := i) (by omega) hi).2.2.2
    have l2 : (K (Lf i)).toInt ≤ (K (Lf (sz - 1))).toInt := by
      by_cases c : i = sz - 1
      · rw [c]; exact Int.le_refl _
      · exact (ft_dist_row h (i := i) (j := sz - 1) (by omega) (by omega)).2.2.2
    rw [e] at l1 l2
    omega
  refine ⟨key, ft_fb_eq (Nat.le_refl _) (fun j _ => ?_) (fun c => by omega)⟩
  by_cases t : T j = true
  · exact (ft_slP_iff h t).mpr (key j t)
  · unfold ft_slP
    have t : T j = false := by simpa using t
    rw [t]
    rfl
theorem ft_slide_out {T : Nat → Bool} {K : Nat → Int64} {w : Nat → Int32} {Lf : Nat → Nat} {sz : Nat} (h : ft_iv T K w Lf sz) (hs : 0 < sz) {y : Int64} (h1 : y < (-2199023255552 : Int64) - K (Lf 0) ∨ (2199023255552 : Int64) - K (Lf (sz - 1)) < y) :
    ft_fb (ft_slP T K y) 200 0 < 200 := by
  have q0 := h.1 _ (h.2.1 0 hs)
  have q1 := h.1 _ (h.2.1 (sz - 1) (by omega))
  have e3 : (2199023255552 : Int64).toInt = 2199023255552 := by decide
  have e4 : (-2199023255552 : Int64).toInt = -2199023255552 := by decide
  rw [Int64.lt_iff_toInt_lt, ft_sub64 (by rw [e4]; omega) (by rw [e4]; omega), e4, Int64.lt_iff_toInt_lt, ft_sub64 (by rw [e3]; omega) (by rw [e3]; omega), e3] at h1
  obtain ⟨_, b2, b3, _⟩ := ft_fb_spec (ft_slP T K y) 200 0
  generalize ft_fb (ft_slP T K y) 200 0 = p at b2 b3 ⊢
  by_cases c : p < 200
  · exact c
  · exfalso
    have k0 := (ft_slP_iff h (h.2.1 0 hs)).mp (b3 (Lf 0) (by omega) (by omega))
    have k1 := (ft_slP_iff h (h.2.1 (sz - 1) (by omega))).mp (b3 (Lf (sz - 1)) (by omega) (by omega))
    omega
/-- the least key behind a slide -/
theorem ft_slide_least {T : Nat → Bool} {K : Nat → Int64} {w : Nat → Int32} {Lf : Nat → Nat} {sz : Nat} (h : ft_iv T K w Lf sz) (hs : 0 < sz) {y : Int64} (hb : ∀ n, T n = true → -2199023255552 ≤ (K n).toInt + y.toInt ∧ (K n).toInt + y.toInt ≤ 2199023255552) :
    ft_gf (fun k acc => if T k = true then ft_min acc (K k + y) else acc) 9223372036854775807 200 = K (Lf 0) + y := by
  obtain ⟨m1, m2, m3⟩ := ft_minf T (fun k => K k + y) 9223372036854775807 200
  have m2 : ∀ k, k < 200 → T k = true → (ft_gf (fun k acc => if T k = true then ft_min acc (K k + y) else acc) 9223372036854775807 200).toInt ≤ (K k + y).toInt := m2
  have m3 : ft_gf (fun k acc => if T k = true then ft_min acc (K k + y) else acc) 9223372036854775807 200 = 9223372036854775807 ∨ ∃ k, k < 200 ∧ T k = true ∧ ft_gf (fun k acc => if T k = true then ft_min acc (K k + y) else acc) 9223372036854775807 200 = K k + y := m3
  generalize ft_gf (fun k acc => if T k = true then ft_min acc (K k + y) else acc) 9223372036854775807 200 = r at m2 m3 ⊢
  have ea : ∀ n, T n = true → (K n + y).toInt = (K n).toInt + y.toInt := fun n hn => by
    have := hb n hn
    exact ft_add64 (by omega) (by omega)
  have t0 := h.2.1 0 hs
  have l0 := m2 _ (ft_iv_lt h hs) t0
  apply Int64.toInt_inj.mp
  have e0 := ea _ t0
  have b0 := hb _ t0
  rcases m3 with e | ⟨k, k1, k2, e⟩
  · rw [e] at l0
    have e9 : (9223372036854775807 : Int64).toInt = 9223372036854775807 := by decide
    omega
  · obtain ⟨i, hi, ei⟩ := h.2.2.1 k k2
    have l1 : (K (Lf 0)).toInt ≤ (K (Lf i)).toInt := by
      by_cases c : i = 0
      · rw [c]; exact Int.le_refl _
      · exact (ft_dist_row h (i := 0) (j := i) (by omega) hi).2.2.2
    rw [ei] at l1
    have e2 := ea k k2
    rw [e] at l0 ⊢
    omega
/-- the stretch between two keys -/
theorem ft_stretch {T : Nat → Bool} {K : Nat → Int64} {w : Nat → Int32} {Lf : Nat → Nat} {sz : Nat} (h : ft_iv T K w Lf sz) (lo hi : Int64) :
    ft_fb (fun i => ft_sb K lo 0 (Lf i)) sz 0 ≤ sz ∧ ft_fb (fun i => ft_sb K hi 200 (Lf i)) sz 0 ≤ sz ∧
    (∀ i, i < sz → (ft_fb (fun i => ft_sb K lo 0 (Lf i)) sz 0 ≤ i ∧ i < ft_fb (fun i => ft_sb K hi 200 (Lf i)) sz 0 ↔ lo ≤ K (Lf i) ∧ K (Lf i) ≤ hi)) := by
  obtain ⟨a1, a2, a3⟩ := ft_mono_fb (ft_sb_mono h lo 0)
  obtain ⟨b1, b2, b3⟩ := ft_mono_fb (ft_sb_mono h hi 200)
  refine ⟨a1, b1, fun i hs => ?_⟩
  have l := ft_iv_lt h hs
  have ha : ft_fb (fun i => ft_sb K lo 0 (Lf i)) sz 0 ≤ i ↔ lo ≤ K (Lf i) := by
    constructor
    · intro c
      have := a3 i c hs
      rw [ft_sb_0 l] at this
      exact Int64.not_lt.mp (of_decide_eq_false this)
    · intro c
      by_cases d : ft_fb (fun i => ft_sb K lo 0 (Lf i)) sz 0 ≤ i
      · exact d
      · have := a2 i (by omega)
        rw [ft_sb_0 l] at this
        exact absurd (of_decide_eq_true this) (Int64.not_lt.mpr c)
  have hb : i < ft_fb (fun i => ft_sb K hi 200 (Lf i)) sz 0 ↔ K (Lf i) ≤ hi := by
    constructor
    · intro c
      have := b2 i c
      rw [ft_sb_200 l] at this
      exact of_decide_eq_true this
    · intro c
      by_cases d : i < ft_fb (fun i => ft_sb K hi 200 (Lf i)) sz 0
      · exact d
      · have := b3 i (by omega) hs
        rw [ft_sb_200 l] at this
        exact absurd c (of_decide_eq_false this)
  rw [ha, hb]
theorem ft_cut_cnt {T : Nat → Bool} {K : Nat → Int64} {w : Nat → Int32} {Lf : Nat → Nat} {sz : Nat} (h : ft_iv T K w Lf sz) (lo hi : Int64) :
    ft_cnt (fun n => T n && (decide (lo ≤ K n) && decide (K n ≤ hi))) 200 = ft_fb (fun i => ft_sb K hi 200 (Lf i)) sz 0 - ft_fb (fun i => ft_sb K lo 0 (Lf i)) sz 0 := by
  obtain ⟨s1, s2, s3⟩ := ft_stretch h lo hi
  generalize ft_fb (fun i => ft_sb K lo 0 (Lf i)) sz 0 = a at s1 s3 ⊢
  generalize ft_fb (fun i => ft_sb K hi 200 (Lf i)) sz 0 = b at s2 s3 ⊢
  have e := ft_perm (op := fun a b : Nat => a + b) (z := 0) (fun a b => Nat.add_comm a b) (fun a b c => Nat.add_assoc a b c) (fun a => Nat.add_zero a) (fun _ => 1) 200 (b - a) (fun n => T n && (decide (lo ≤ K n) && decide (K n ≤ hi))) (fun i => Lf (a + i))
    (fun i hi' => ⟨ft_iv_lt h (by omega), by
      have q := (s3 (a + i) (by omega)).mp ⟨by omega, by omega⟩
      show (T (Lf (a + i)) && (decide (lo ≤ K (Lf (a + i))) && decide (K (Lf (a + i)) ≤ hi))) = true
      rw [h.2.1 _ (by omega), decide_eq_true q.1, decide_eq_true q.2]
      rfl⟩)
    (fun n hn ht => by
      have ht : (T n && (decide (lo ≤ K n) && decide (K n ≤ hi))) = true := ht
      rw [Bool.and_eq_true, Bool.and_eq_true, decide_eq_true_iff, decide_eq_true_iff] at ht
      obtain ⟨i, h1, e⟩ := h.2.2.1 n ht.1
      have q := (s3 i h1).mpr (by rw [e]; exact ht.2)
      exact ⟨i - a, by omega, by show Lf (a + (i - a)) = n; rw [← e]; congr 1; omega⟩)
    (fun i j hij hj => ft_iv_ne h (by omega) (by omega))
  rw [ft_sum_one] at e
  exact e.symm
