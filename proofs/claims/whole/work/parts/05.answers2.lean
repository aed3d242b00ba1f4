/-! FAIR, EARLIEST, half, nearest -/
abbrev ft_W64 (T : Nat → Bool) (w : Nat → Int32) : Int64 := ft_sum (fun a b : Int64 => a + b) 0 (fun k => if T k = true then (w k).toInt64 else 0) 200
abbrev ft_S64 (T : Nat → Bool) (K : Nat → Int64) (w : Nat → Int32) : Int64 := ft_sum (fun a b : Int64 => a + b) 0 (fun k => if T k = true then K k * (w k).toInt64 else 0) 200
abbrev ft_ld (T : Nat → Bool) (K : Nat → Int64) (w : Nat → Int32) (c : Int64) : Int64 := ft_sum (fun a b : Int64 => a + b) 0 (fun k => if T k = true then (c - K k) * (w k).toInt64 else 0) 200
theorem ft_W_32 {T : Nat → Bool} {K : Nat → Int64} {w : Nat → Int32} {Lf : Nat → Nat} {sz : Nat} (h : ft_iv T K w Lf sz) :
    ft_W64 T w = (ft_sum (fun a b : Int32 => a + b) 0 (fun n => if T n = true then w n else 0) 200).toInt64 ∧ 0 ≤ (ft_W64 T w).toInt ∧ (ft_W64 T w).toInt ≤ 200000 := by
  have hs := ft_small (fun n => if T n = true then w n else 0) 200 (Nat.le_refl _) (fun n _ => by
    show 0 ≤ (if T n = true then w n else 0).toInt ∧ (if T n = true then w n else 0).toInt ≤ 1000
    by_cases c : T n = true
    · rw [if_pos c]
      have := h.1 n c
      omega
    · rw [if_neg c]
      exact ⟨by decide, by decide⟩)
  have e : ft_W64 T w = ft_sum (fun a b : Int64 => a + b) 0 (fun i => ((if T i = true then w i else 0) : Int32).toInt64) 200 := ft_sum_congr (fun n _ => by
    by_cases c : T n = true
    · rw [if_pos c, if_pos c]
    · rw [if_neg c, if_neg c]
      decide)
  rw [e, hs.2.2]
  refine ⟨rfl, ?_, ?_⟩
  · rw [Int32.toInt_toInt64]
    exact hs.1
  · rw [Int32.toInt_toInt64]
    have := hs.2.1
    omega
theorem ft_fair {T : Nat → Bool} {K : Nat → Int64} {w : Nat → Int32} {Lf : Nat → Nat} {sz : Nat} (h : ft_iv T K w Lf sz) {c : Int64} (hc : -2199023255552 ≤ c.toInt ∧ c.toInt ≤ 2199023255552) :
    (ft_ld T K w c ≤ 0 ↔ c * ft_W64 T w ≤ ft_S64 T K w) ∧ (c * ft_W64 T w).toInt = c.toInt * (ft_W64 T w).toInt := by
  obtain ⟨_, w1, w2⟩ := ft_W_32 h
  have e1 : ft_ld T K w c = c * ft_W64 T w - ft_S64 T K w := ft_lead T K (fun k => (w k).toInt64) c 200
  have hS := ft_big (fun k => if T k = true then K k * (w k).toInt64 else 0) (fun k => by
    show -2199023255552000 ≤ (if T k = true then K k * (w k).toInt64 else 0).toInt ∧ (if T k = true then K k * (w k).toInt64 else 0).toInt ≤ 2199023255552000
    by_cases t : T k = true
    · rw [if_pos t]
      obtain ⟨_, q1, q2, q3, q4⟩ := h.1 k t
      have hm := ft_mulb (a := (K k).toInt) (b := (w k).toInt) (A := 2199023255552) (B := 1000) (by omega) ⟨q3, q4⟩ ⟨by omega, q2⟩
      rw [ft_mul64 (by rw [Int32.toInt_toInt64]; omega) (by rw [Int32.toInt_toInt64]; omega), Int32.toInt_toInt64]
      omega
    · rw [if_neg t]
      exact ⟨by decide, by decide⟩) 200 (Nat.le_refl _)
  rw [e1]
  have hS1 : -439804651110400000 ≤ (ft_S64 T K w).toInt := by
    have q : -2199023255552000 * ((200 : Nat) : Int) ≤ (ft_S64 T K w).toInt := hS.1
    omega
  have hS2 : (ft_S64 T K w).toInt ≤ 439804651110400000 := by
    have q : (ft_S64 T K w).toInt ≤ 2199023255552000 * ((200 : Nat) : Int) := hS.2
    omega
  generalize ft_S64 T K w = S at hS1 hS2 ⊢
  generalize ft_W64 T w = V at w1 w2 ⊢
  have hm := ft_mulb (a := c.toInt) (b := V.toInt) (A := 2199023255552) (B := 200000) (by omega) hc ⟨w1, w2⟩
  have em : (c * V).toInt = c.toInt * V.toInt := ft_mul64 (by omega) (by omega)
  have es : (c * V - S).toInt = (c * V).toInt - S.toInt := ft_sub64 (by rw [em]; omega) (by rw [em]; omega)
  refine ⟨?_, em⟩
  rw [Int64.le_iff_toInt_le, Int64.le_iff_toInt_le, es]
  have e0 : (0 : Int64).toInt = 0 := by decide
  rw [e0]
  omega
theorem ft_fair_mono {T : Nat → Bool} {K : Nat → Int64} {w : Nat → Int32} {Lf : Nat → Nat} {sz : Nat} (h : ft_iv T K w Lf sz) :
    ∀ i j, i < j → j < sz → decide (K (Lf j) * ft_W64 T w ≤ ft_S64 T K w) = true → decide (K (Lf i) * ft_W64 T w ≤ ft_S64 T K w) = true := by
  intro i j hij hj hd
  have hd := of_decide_eq_true hd
  refine decide_eq_true ?_
  have hi := h.1 _ (h.2.1 i (by omega))
  have hj' := h.1 _ (h.2.1 j hj)
  have f1 := (ft_fair h (c := K (Lf i)) ⟨hi.2.2.2.1, hi.2.2.2.2⟩).2
  have f2 := (ft_fair h (c := K (Lf j)) ⟨hj'.2.2.2.1, hj'.2.2.2.2⟩).2
  obtain ⟨_, w1, _⟩ := ft_W_32 h
  have hb := h.2.2.2 i j hij hj
  have hle : (K (Lf i)).toInt ≤ (K (Lf j)).toInt := by
    unfold ft_bf at hb
    simp only [Int64.lt_iff_toInt_lt, ← Int64.toInt_inj] at hb
    omega
  have := Int.mul_le_mul_of_nonneg_right hle w1
  rw [Int64.le_iff_toInt_le] at hd ⊢
  rw [f1]
  rw [f2] at hd
  omega
/-- the row's sum of keys times weights -/
theorem ft_S_row {T : Nat → Bool} {K : Nat → Int64} {w W : Nat → Int32} {Lf : Nat → Nat} {sz : Nat} (h : ft_iv T K w Lf sz) (hW : ∀ n, T n = true → W n = w n) :
    ft_sum (fun a b : Int64 => a + b) 0 (fun i => K (Lf i) * (W (Lf i)).toInt64) sz = ft_S64 T K w := by
  rw [ft_iv_sum (op := fun a b : Int64 => a + b) (z := 0) (fun a b => Int64.add_comm a b) (fun a b c => Int64.add_assoc a b c) (fun a => Int64.add_zero a) h (fun n => K n * (W n).toInt64)]
  refine ft_sum_congr (fun n _ => ?_)
  by_cases t : T n = true
  · rw [if_pos t, if_pos t, hW n t]
  · rw [if_neg t, if_neg t]
theorem ft_W_row {T : Nat → Bool} {K : Nat → Int64} {w W : Nat → Int32} {Lf : Nat → Nat} {sz : Nat} (h : ft_iv T K w Lf sz) (hW : ∀ n, T n = true → W n = w n) :
    (ft_sum (fun a b : Int32 => a + b) 0 (fun i => W (Lf i)) sz).toInt64 = ft_W64 T w := by
  rw [ft_all h hW, (ft_W_32 h).1]
/-- the FAIR ones are the first of the row -/
theorem ft_fair_row {T : Nat → Bool} {K : Nat → Int64} {w : Nat → Int32} {Lf : Nat → Nat} {sz : Nat} (h : ft_iv T K w Lf sz) :
    ft_fb (fun i => decide (K (Lf i) * ft_W64 T w ≤ ft_S64 T K w)) sz 0 ≤ sz ∧
    (∀ i, i < ft_fb (fun i => decide (K (Lf i) * ft_W64 T w ≤ ft_S64 T K w)) sz 0 → ft_ld T K w (K (Lf i)) ≤ 0) ∧
    (∀ i, ft_fb (fun i => decide (K (Lf i) * ft_W64 T w ≤ ft_S64 T K w)) sz 0 ≤ i → i < sz → ¬ ft_ld T K w (K (Lf i)) ≤ 0) := by
  obtain ⟨m1, m2, m3⟩ := ft_mono_fb (P := fun n => decide (K n * ft_W64 T w ≤ ft_S64 T K w)) (ft_fair_mono h)
  refine ⟨m1, fun i hi => ?_, fun i h1 h2 => ?_⟩
  · have q := h.1 _ (h.2.1 i (by omega))
    exact (ft_fair h ⟨q.2.2.2.1, q.2.2.2.2⟩).1.mpr (of_decide_eq_true (m2 i hi))
  · have q := h.1 _ (h.2.1 i h2)
    intro c
    exact of_decide_eq_false (m3 i h1 h2) ((ft_fair h ⟨q.2.2.2.1, q.2.2.2.2⟩).1.mp c)
theorem ft_cnt_congr {P P' : Nat → Bool} {n : Nat} (h : ∀ k, k < n → P k = P' k) : ft_cnt P n = ft_cnt P' n := ft_sum_congr (fun k hk => by rw [h k hk])
theorem ft_fair_cnt {T : Nat → Bool} {K : Nat → Int64} {w : Nat → Int32} {Lf : Nat → Nat} {sz : Nat} (h : ft_iv T K w Lf sz) :
    ft_cnt (fun n => T n && decide (ft_ld T K w (K n) ≤ 0)) 200 = ft_fb (fun i => decide (K (Lf i) * ft_W64 T w ≤ ft_S64 T K w)) sz 0 := by
  obtain ⟨m1, m2, m3⟩ := ft_fair_row h
  exact ft_iv_preCnt h (fun n => decide (ft_ld T K w (K n) ≤ 0)) m1 (fun i hi => decide_eq_true (m2 i hi)) (fun i h1 h2 => decide_eq_false (m3 i h1 h2))
/-- the EARLIEST of a stretch of the row -/
def ft_em (D : Nat → Int64) (Lf : Nat → Nat) : Nat → Nat → Nat → Nat
  | 0, _, f => f
  | k + 1, i, f => ft_em D Lf k (i + 1) (if ft_sb D (D f) (nI f) (Lf i) = true then Lf i else f)
theorem ft_sb_bf {D : Nat → Int64} {a b : Nat} (ha : a < 200) (hb : b < 200) : ft_sb D (D b) (nI b) a = true ↔ ft_bf D a b := by
  rw [ft_sb_iff, nI_ltI (by omega) (by omega)]
  exact Iff.rfl
theorem ft_em_spec {D : Nat → Int64} {Lf : Nat → Nat} : ∀ k i f, f < 200 → (∀ j, i ≤ j → j < i + k → Lf j < 200) →
    (ft_em D Lf k i f = f ∨ ∃ j, i ≤ j ∧ j < i + k ∧ Lf j = ft_em D Lf k i f) ∧ ¬ ft_bf D f (ft_em D Lf k i f) ∧ (∀ j, i ≤ j → j < i + k → ¬ ft_bf D (Lf j) (ft_em D Lf k i f)) := by
  intro k
  induction k with
  | zero => intro i f _ _; exact ⟨Or.inl rfl, ft_bf_irr, fun j h1 h2 => by omega⟩
  | succ k ih =>
    intro i f hf hL
    have hLi := hL i (Nat.le_refl _) (by omega)
    have key := ft_sb_bf (D := D) hLi hf
    show (ft_em D Lf k (i + 1) (if ft_sb D (D f) (nI f) (Lf i) = true then Lf i else f) = f ∨ ∃ j, i ≤ j ∧ j < i + (k + 1) ∧ Lf j = ft_em D Lf k (i + 1) (if ft_sb D (D f) (nI f) (Lf i) = true then Lf i else f)) ∧
      ¬ ft_bf D f (ft_em D Lf k (i + 1) (if ft_sb D (D f) (nI f) (Lf i) = true then Lf i else f)) ∧ (∀ j, i ≤ j → j < i + (k + 1) → ¬ ft_bf D (Lf j) (ft_em D Lf k (i + 1) (if ft_sb D (D f) (nI f) (Lf i) = true then Lf i else f)))
    by_cases c : ft_sb D (D f) (nI f) (Lf i) = true
    · rw [if_pos c]
      have hb := key.mp c
      obtain ⟨h1, h2, h3⟩ := ih (i + 1) (Lf i) hLi (fun j a b => hL j (by omega) (by omega))
      generalize ft_em D Lf k (i + 1) (Lf i) = r at h1 h2 h3 ⊢
      refine ⟨Or.inr ?_, fun q => h2 (ft_bf_tr hb q), fun j a b => ?_⟩
      · rcases h1 with e | ⟨j, a, b, e⟩
        · exact ⟨i, Nat.le_refl _, by omega, e.symm⟩
        · exact ⟨j, by omega, by omega, e⟩
      · by_cases e : j = i
        · rw [e]; exact h2
        · exact h3 j (by omega) (by omega)
    · rw [if_neg c]
      have hb : ¬ ft_bf D (Lf i) f := fun q => c (key.mpr q)
      obtain ⟨h1, h2, h3⟩ := ih (i + 1) f hf (fun j a b => hL j (by omega) (by omega))
      generalize ft_em D Lf k (i + 1) f = r at h1 h2 h3 ⊢
      refine ⟨?_, h2, fun j a b => ?_⟩
      · rcases h1 with e | ⟨j, a, b, e⟩
        · exact Or.inl e
        · exact Or.inr ⟨j, by omega, by omega, e⟩
      · by_cases e : j = i
        · rw [e]
          intro q
          by_cases ef : f = r
          · rw [← ef] at q; exact hb q
          · rcases ft_bf_tot (K := D) ef with t | t
            · exact h2 t
            · exact hb (ft_bf_tr q t)
        · exact h3 j (by omega) (by omega)
/-- the least of those with P, by a strict order, kept as it is found -/
def ft_lto (lt : Nat → Nat → Bool) (n : Nat) : Option Nat → Bool
  | none => true
  | some b => lt n b
def ft_mnS (P : Nat → Bool) (lt : Nat → Nat → Bool) (n : Nat) (acc : Option Nat) : Option Nat := if (P n && ft_lto lt n acc) = true then some n else acc
theorem ft_mn_spec {P : Nat → Bool} {lt : Nat → Nat → Bool} {R : Nat → Nat → Prop} (irr : ∀ a, ¬ R a a) (tr : ∀ a b c, R a b → R b c → R a c)
    (hlt : ∀ n b, b < n → n < 200 → (lt n b = true ↔ R n b)) (tot : ∀ a b, a ≠ b → R a b ∨ R b a) : ∀ n, n ≤ 200 →
    (ft_gf (ft_mnS P lt) none n = none → ∀ k, k < n → P k = false) ∧ (∀ b, ft_gf (ft_mnS P lt) none n = some b → b < n ∧ P b = true ∧ ∀ k, k < n → P k = true → ¬ R k b) := by
  intro n
  induction n with
  | zero => intro _; exact ⟨fun _ k hk => by omega, fun b hb => by cases hb⟩
  | succ n ih =>
    intro hn
    obtain ⟨h1, h2⟩ := ih (by omega)
    show (ft_mnS P lt n (ft_gf (ft_mnS P lt) none n) = none → ∀ k, k < n + 1 → P k = false) ∧ (∀ b, ft_mnS P lt n (ft_gf (ft_mnS P lt) none n) = some b → b < n + 1 ∧ P b = true ∧ ∀ k, k < n + 1 → P k = true → ¬ R k b)
    generalize ft_gf (ft_mnS P lt) none n = acc at h1 h2 ⊢
    unfold ft_mnS
    by_cases c : (P n && ft_lto lt n acc) = true
    · rw [if_pos c]
      refine ⟨fun q => (by cases q), fun b hb => ?_⟩
      obtain rfl := Option.some.inj hb
      rw [Bool.and_eq_true] at c
      refine ⟨by omega, c.1, fun k hk hP q => ?_⟩
      by_cases e : k = n
      · rw [e] at q; exact irr _ q
      · cases acc with
        | none =>
          have := h1 rfl k (by omega)
          rw [hP] at this
          cases this
        | some b0 =>
          obtain ⟨b1, b2, b3⟩ := h2 b0 rfl
          have hr := (hlt n b0 b1 (by omega)).mp c.2
          exact b3 k (by omega) hP (tr _ _ _ q hr)
    · rw [if_neg c]
      refine ⟨fun q k hk => ?_, fun b hb => ?_⟩
      · by_cases e : k = n
        · rw [e]
          subst q
          have c : ¬ (P n && true) = true := c
          simpa using c
        · exact h1 q k (by omega)
      · obtain ⟨b1, b2, b3⟩ := h2 b hb
        refine ⟨by omega, b2, fun k hk hP q => ?_⟩
        by_cases e : k = n
        · rw [e] at q hP
          subst hb
          refine c ?_
          rw [Bool.and_eq_true]
          exact ⟨hP, (hlt n b b1 (by omega)).mpr q⟩
        · exact b3 k (by omega) hP q
theorem ft_mn_eq {P : Nat → Bool} {lt : Nat → Nat → Bool} {R : Nat → Nat → Prop} (irr : ∀ a, ¬ R a a) (tr : ∀ a b c, R a b → R b c → R a c)
    (hlt : ∀ n b, b < n → n < 200 → (lt n b = true ↔ R n b)) (tot : ∀ a b, a ≠ b → R a b ∨ R b a) {r : Nat} (hr : r < 200) (hP : P r = true) (hm : ∀ k, k < 200 → P k = true → ¬ R k r) :
    ft_gf (ft_mnS P lt) none 200 = some r := by
  obtain ⟨h1, h2⟩ := ft_mn_spec (P := P) irr tr hlt tot 200 (Nat.le_refl _)
  cases e : ft_gf (ft_mnS P lt) none 200 with
  | none =>
    have := h1 e r hr
    rw [hP] at this
    cases this
  | some b =>
    obtain ⟨b1, b2, b3⟩ := h2 b e
    by_cases c : b = r
    · rw [c]
    · rcases tot b r c with t | t
      · exact absurd t (hm b b1 b2)
      · exact absurd t (b3 r hr hP)
theorem ft_mn_none {P : Nat → Bool} {lt : Nat → Nat → Bool} (h : ∀ k, k < 200 → P k = false) : ∀ n, n ≤ 200 → ft_gf (ft_mnS P lt) none n = none := by
  intro n
  induction n with
  | zero => intro _; rfl
  | succ n ih =>
    intro hn
    show ft_mnS P lt n (ft_gf (ft_mnS P lt) none n) = none
    rw [ih (by omega)]
    unfold ft_mnS
    rw [h n (by omega)]
    rfl
/-- due first: the strict compare of dues alone, going upwards, is the order by due and number -/
theorem ft_dlt (D : Nat → Int64) : ∀ n b, b < n → n < 200 → (decide (D n < D b) = true ↔ ft_bf D n b) := by
  intro n b h1 _
  rw [decide_eq_true_iff]
  unfold ft_bf
  constructor
  · exact Or.inl
  · rintro (q | ⟨_, q⟩)
    · exact q
    · omega
/-- the EARLIEST of the stretch from a to b of the row is the EARLIEST of the numbers with P, if these are they -/
theorem ft_first {T : Nat → Bool} {K D : Nat → Int64} {w : Nat → Int32} {Lf : Nat → Nat} {sz : Nat} (h : ft_iv T K w Lf sz) {P : Nat → Bool} {a b : Nat} (hab : a < b) (hb : b ≤ sz)
    (h1 : ∀ i, a ≤ i → i < b → P (Lf i) = true) (h2 : ∀ n, n < 200 → P n = true → ∃ i, a ≤ i ∧ i < b ∧ Lf i = n) :
    ft_gf (ft_mnS P (fun n c => decide (D n < D c))) none 200 = some (ft_em D Lf (b - a - 1) (a + 1) (Lf a)) ∧ ft_em D Lf (b - a - 1) (a + 1) (Lf a) < 200 := by
  obtain ⟨q1, q2, q3⟩ := ft_em_spec (D := D) (Lf := Lf) (b - a - 1) (a + 1) (Lf a) (ft_iv_lt h (by omega)) (fun j _ c => ft_iv_lt h (by omega))
  generalize ft_em D Lf (b - a - 1) (a + 1) (Lf a) = r at q1 q2 q3 ⊢
  have hr : ∃ i, a ≤ i ∧ i < b ∧ Lf i = r := by
    rcases q1 with e | ⟨j, c1, c2, e⟩
    · exact ⟨a, Nat.le_refl _, hab, e.symm⟩
    · exact ⟨j, by omega, by omega, e⟩
  obtain ⟨i, c1, c2, e⟩ := hr
  have hlt : r < 200 := by rw [← e]; exact ft_iv_lt h (by omega)
  refine ⟨ft_mn_eq (R := ft_bf D) (fun _ => ft_bf_irr) (fun _ _ _ => ft_bf_tr) (ft_dlt D) (fun _ _ => ft_bf_tot) hlt (by rw [← e]; exact h1 i c1 c2) (fun k hk hP => ?_), hlt⟩
  obtain ⟨j, d1, d2, ej⟩ := h2 k hk hP
  rw [← ej]
  by_cases ea : j = a
  · rw [ea]; exact q2
  · exact q3 j (by omega) (by omega)
