/-! what the row answers and what all numbers answer: the same -/
def ft_sb (K : Nat → Int64) (key : Int64) (num : Int32) (j : Nat) : Bool := decide (K j < key) || (decide (K j = key) && decide (nI j < num))
theorem ft_sb_iff {K : Nat → Int64} {key : Int64} {num : Int32} {j : Nat} : ft_sb K key num j = true ↔ (K j < key ∨ (K j = key ∧ nI j < num)) := by
  unfold ft_sb
  simp
theorem ft_mono_fb {Lf : Nat → Nat} {P : Nat → Bool} {sz : Nat} (hm : ∀ i j, i < j → j < sz → P (Lf j) = true → P (Lf i) = true) :
    ft_fb (fun i => P (Lf i)) sz 0 ≤ sz ∧ (∀ i, i < ft_fb (fun i => P (Lf i)) sz 0 → P (Lf i) = true) ∧ (∀ i, ft_fb (fun i => P (Lf i)) sz 0 ≤ i → i < sz → P (Lf i) = false) := by
  obtain ⟨_, b2, b3, b4⟩ := ft_fb_spec (fun i => P (Lf i)) sz 0
  generalize ft_fb (fun i => P (Lf i)) sz 0 = p at b2 b3 b4 ⊢
  refine ⟨by omega, fun i hi => b3 i (by omega) hi, fun i h1 h2 => ?_⟩
  have e : P (Lf p) = false := b4 (by omega)
  cases hc : P (Lf i) with
  | false => rfl
  | true =>
    exfalso
    by_cases c : p = i
    · rw [c, hc] at e
      cases e
    · have := hm p i (by omega) h2 hc
      rw [this] at e
      cases e
theorem ft_sb_mono {T : Nat → Bool} {K : Nat → Int64} {w : Nat → Int32} {Lf : Nat → Nat} {sz : Nat} (h : ft_iv T K w Lf sz) (key : Int64) (num : Int32) :
    ∀ i j, i < j → j < sz → ft_sb K key num (Lf j) = true → ft_sb K key num (Lf i) = true := by
  intro i j hij hj
  have hb := h.2.2.2 i j hij hj
  have e1 := nI_toInt (n := Lf i) (by have := ft_iv_lt h (show i < sz by omega); omega)
  have e2 := nI_toInt (n := Lf j) (by have := ft_iv_lt h hj; omega)
  rw [ft_sb_iff, ft_sb_iff]
  unfold ft_bf at hb
  simp only [Int64.lt_iff_toInt_lt, Int32.lt_iff_toInt_lt, ← Int64.toInt_inj, e1, e2] at hb ⊢
  omega
theorem ft_rank {T : Nat → Bool} {K : Nat → Int64} {w : Nat → Int32} {Lf : Nat → Nat} {sz : Nat} (h : ft_iv T K w Lf sz) {n : Nat} (hT : T n = true) :
    ∃ p, p < sz ∧ Lf p = n ∧ ft_fb (fun i => ft_sb K (K n) (nI n) (Lf i)) sz 0 = p ∧ ft_cnt (fun k => T k && ft_sb K (K n) (nI n) k) 200 = p := by
  obtain ⟨p, hp, e⟩ := h.2.2.1 n hT
  have m := ft_mono_fb (ft_sb_mono h (K n) (nI n))
  have e1 : ft_fb (fun i => ft_sb K (K n) (nI n) (Lf i)) sz 0 = p := by
    refine ft_fb_eq (by omega) (fun j hj => ?_) (fun _ => ?_)
    · show ft_sb K (K n) (nI n) (Lf j) = true
      have hb := h.2.2.2 j p hj hp
      rw [e] at hb
      rw [ft_sb_iff]
      rcases hb with c | ⟨c1, c2⟩
      · exact Or.inl c
      · exact Or.inr ⟨c1, nI_lt c2 (by have := (h.1 n hT).1; omega)⟩
    · show ft_sb K (K n) (nI n) (Lf p) = false
      rw [e]
      cases hc : ft_sb K (K n) (nI n) n with
      | false => rfl
      | true =>
        rw [ft_sb_iff] at hc
        rcases hc with c | ⟨_, c⟩
        · exact absurd c Int64.lt_irrefl
        · exact absurd c Int32.lt_irrefl
  refine ⟨p, hp, e, e1, ?_⟩
  rw [e1] at m
  exact ft_iv_preCnt h (ft_sb K (K n) (nI n)) (by omega) m.2.1 m.2.2
/-- the number of which x comes before -/
def ft_atP (T : Nat → Bool) (K : Nat → Int64) (x : Int32) (n : Nat) : Bool := !(T n && decide (nI (ft_cnt (fun q => T q && ft_sb K (K n) (nI n) q) 200) = x))
theorem ft_at_in {T : Nat → Bool} {K : Nat → Int64} {w : Nat → Int32} {Lf : Nat → Nat} {sz : Nat} (h : ft_iv T K w Lf sz) {k : Nat} (hk : k < sz) : ft_fb (ft_atP T K (nI k)) 200 0 = Lf k := by
  have hl := ft_iv_le h
  refine ft_fb_eq (Nat.le_of_lt (ft_iv_lt h hk)) (fun j hj => ?_) (fun _ => ?_)
  · show (!(T j && decide (nI (ft_cnt (fun q => T q && ft_sb K (K j) (nI j) q) 200) = nI k))) = true
    cases hT : T j with
    | false => rfl
    | true =>
      obtain ⟨p, hp, e, _, e2⟩ := ft_rank h hT
      rw [e2]
      have : ¬ nI p = nI k := fun c => by
        rw [nI_eq (by omega) (by omega)] at c
        rw [c] at e
        omega
      simp [this]
  · obtain ⟨p, hp, e, _, e2⟩ := ft_rank h (h.2.1 k hk)
    have e3 := ft_iv_inj h hp hk e
    show (!(T (Lf k) && decide (nI (ft_cnt (fun q => T q && ft_sb K (K (Lf k)) (nI (Lf k)) q) 200) = nI k))) = false
    rw [e2, h.2.1 k hk, e3]
    simp
theorem ft_at_out {T : Nat → Bool} {K : Nat → Int64} {w : Nat → Int32} {Lf : Nat → Nat} {sz : Nat} (h : ft_iv T K w Lf sz) {x : Int32} (hx : ∀ k, k < sz → x ≠ nI k) : ft_fb (ft_atP T K x) 200 0 = 200 := by
  refine ft_fb_eq (Nat.le_refl _) (fun j hj => ?_) (fun c => by omega)
  show (!(T j && decide (nI (ft_cnt (fun q => T q && ft_sb K (K j) (nI j) q) 200) = x))) = true
  cases hT : T j with
  | false => rfl
  | true =>
    obtain ⟨p, hp, e, _, e2⟩ := ft_rank h hT
    rw [e2]
    have : ¬ nI p = x := fun c => hx p hp c.symm
    simp [this]
theorem ft_sb_200 {K : Nat → Int64} {key : Int64} {n : Nat} (hn : n < 200) : ft_sb K key 200 n = decide (K n ≤ key) := by
  have h1 : nI n < 200 := nI_lt (b := 200) hn (by omega)
  rw [Bool.eq_iff_iff, ft_sb_iff, decide_eq_true_iff]
  simp only [h1, and_true, Int64.le_iff_toInt_le, Int64.lt_iff_toInt_lt, ← Int64.toInt_inj]
  omega
theorem ft_sb_0 {K : Nat → Int64} {key : Int64} {n : Nat} (hn : n < 200) : ft_sb K key 0 n = decide (K n < key) := by
  have h1 : ¬ nI n < 0 := nI_pos (by omega)
  rw [Bool.eq_iff_iff, ft_sb_iff, decide_eq_true_iff]
  simp only [h1, and_false, or_false]
theorem ft_weight {T : Nat → Bool} {K : Nat → Int64} {w W : Nat → Int32} {Lf : Nat → Nat} {sz : Nat} (h : ft_iv T K w Lf sz) (hW : ∀ n, T n = true → W n = w n) (key : Int64) :
    ft_sum (fun a b : Int32 => a + b) 0 (fun i => W (Lf i)) (ft_fb (fun i => ft_sb K key 200 (Lf i)) sz 0) = ft_sum (fun a b : Int32 => a + b) 0 (fun n => if (T n && decide (K n ≤ key)) = true then w n else 0) 200 := by
  obtain ⟨m1, m2, m3⟩ := ft_mono_fb (ft_sb_mono h key 200)
  rw [ft_iv_pre (op := fun a b : Int32 => a + b) (z := 0) (fun a b => Int32.add_comm a b) (fun a b c => Int32.add_assoc a b c) (fun a => Int32.add_zero a) h W (ft_sb K key 200) m1 m2 m3]
  refine ft_sum_congr (fun n hn => ?_)
  rw [ft_sb_200 hn]
  cases hT : T n with
  | false => simp
  | true => rw [hW n hT]
theorem ft_all {T : Nat → Bool} {K : Nat → Int64} {w W : Nat → Int32} {Lf : Nat → Nat} {sz : Nat} (h : ft_iv T K w Lf sz) (hW : ∀ n, T n = true → W n = w n) :
    ft_sum (fun a b : Int32 => a + b) 0 (fun i => W (Lf i)) sz = ft_sum (fun a b : Int32 => a + b) 0 (fun n => if T n = true then w n else 0) 200 := by
  rw [ft_iv_sum (op := fun a b : Int32 => a + b) (z := 0) (fun a b => Int32.add_comm a b) (fun a b c => Int32.add_assoc a b c) (fun a => Int32.add_zero a) h W]
  refine ft_sum_congr (fun n hn => ?_)
  by_cases hT : T n = true
  · rw [if_pos hT, if_pos hT, hW n hT]
  · rw [if_neg hT, if_neg hT]
/-- small weights add up without wrapping, as ints and as longs -/
theorem ft_small (f : Nat → Int32) : ∀ n : Nat, n ≤ 200 → (∀ i, i < n → 0 ≤ (f i).toInt ∧ (f i).toInt ≤ 1000) →
    0 ≤ (ft_sum (fun a b : Int32 => a + b) 0 f n).toInt ∧ (ft_sum (fun a b : Int32 => a + b) 0 f n).toInt ≤ 1000 * n ∧
    ft_sum (fun a b : Int64 => a + b) 0 (fun i => (f i).toInt64) n = (ft_sum (fun a b : Int32 => a + b) 0 f n).toInt64 := by
  intro n
  induction n with
  | zero =>
    intro _ _
    show 0 ≤ (0 : Int32).toInt ∧ (0 : Int32).toInt ≤ 1000 * ((0 : Nat) : Int) ∧ (0 : Int64) = (0 : Int32).toInt64
    decide
  | succ n ih =>
    intro hn hf
    obtain ⟨h1, h2, h3⟩ := ih (by omega) (fun i hi => hf i (by omega))
    have hb := hf n (by omega)
    show 0 ≤ (ft_sum (fun a b : Int32 => a + b) 0 f n + f n).toInt ∧ (ft_sum (fun a b : Int32 => a + b) 0 f n + f n).toInt ≤ 1000 * ((n + 1 : Nat) : Int) ∧
      ft_sum (fun a b : Int64 => a + b) 0 (fun i => (f i).toInt64) n + (f n).toInt64 = (ft_sum (fun a b : Int32 => a + b) 0 f n + f n).toInt64
    rw [h3]
    generalize ft_sum (fun a b : Int32 => a + b) 0 f n = x at h1 h2 ⊢
    have e : (x + f n).toInt = x.toInt + (f n).toInt := ft_add32 (by omega) (by omega)
    refine ⟨by omega, by omega, ?_⟩
    apply Int64.toInt_inj.mp
    rw [ft_add64 (by rw [Int32.toInt_toInt64, Int32.toInt_toInt64]; omega) (by rw [Int32.toInt_toInt64, Int32.toInt_toInt64]; omega)]
    rw [Int32.toInt_toInt64, Int32.toInt_toInt64, Int32.toInt_toInt64, e]
/-- bounded longs add up without wrapping -/
theorem ft_big (g : Nat → Int64) (hg : ∀ i, -2199023255552000 ≤ (g i).toInt ∧ (g i).toInt ≤ 2199023255552000) : ∀ n : Nat, n ≤ 200 →
    -2199023255552000 * n ≤ (ft_sum (fun a b : Int64 => a + b) 0 g n).toInt ∧ (ft_sum (fun a b : Int64 => a + b) 0 g n).toInt ≤ 2199023255552000 * n := by
  intro n
  induction n with
  | zero =>
    intro _
    show -2199023255552000 * ((0 : Nat) : Int) ≤ (0 : Int64).toInt ∧ (0 : Int64).toInt ≤ 2199023255552000 * ((0 : Nat) : Int)
    decide
  | succ n ih =>
    intro hn
    obtain ⟨h1, h2⟩ := ih (by omega)
    have hb := hg n
    show -2199023255552000 * ((n + 1 : Nat) : Int) ≤ (ft_sum (fun a b : Int64 => a + b) 0 g n + g n).toInt ∧ (ft_sum (fun a b : Int64 => a + b) 0 g n + g n).toInt ≤ 2199023255552000 * ((n + 1 : Nat) : Int)
    generalize ft_sum (fun a b : Int64 => a + b) 0 g n = x at h1 h2 ⊢
    have e : (x + g n).toInt = x.toInt + (g n).toInt := ft_add64 (by omega) (by omega)
    rw [e]
    exact ⟨by omega, by omega⟩
theorem ft_mulb {a b A B : Int} (hA : 0 ≤ A) (ha : -A ≤ a ∧ a ≤ A) (hb : 0 ≤ b ∧ b ≤ B) : -(A * B) ≤ a * b ∧ a * b ≤ A * B := by
  have h1 : A * b ≤ A * B := Int.mul_le_mul_of_nonneg_left hb.2 hA
  have h2 : a * b ≤ A * b := Int.mul_le_mul_of_nonneg_right ha.2 hb.1
  have h3 : -A * b ≤ a * b := Int.mul_le_mul_of_nonneg_right ha.1 hb.1
  rw [Int.neg_mul] at h3
  exact ⟨by omega, by omega⟩
/-- the lead of a number: sum of its distances, as a product less a sum -/
theorem ft_lead (T : Nat → Bool) (K : Nat → Int64) (v : Nat → Int64) (c : Int64) (n : Nat) :
    ft_sum (fun a b : Int64 => a + b) 0 (fun k => if T k = true then (c - K k) * v k else 0) n =
      c * ft_sum (fun a b : Int64 => a + b) 0 (fun k => if T k = true then v k else 0) n - ft_sum (fun a b : Int64 => a + b) 0 (fun k => if T k = true then K k * v k else 0) n := by
  induction n with
  | zero =>
    show (0 : Int64) = c * 0 - 0
    rw [Int64.mul_zero, Int64.sub_zero]
  | succ n ih =>
    show ft_sum (fun a b : Int64 => a + b) 0 (fun k => if T k = true then (c - K k) * v k else 0) n + (if T n = true then (c - K n) * v n else 0) =
      c * (ft_sum (fun a b : Int64 => a + b) 0 (fun k => if T k = true then v k else 0) n + (if T n = true then v n else 0)) - (ft_sum (fun a b : Int64 => a + b) 0 (fun k => if T k = true then K k * v k else 0) n + (if T n = true then K n * v n else 0))
    rw [ih]
    generalize ft_sum (fun a b : Int64 => a + b) 0 (fun k => if T k = true then v k else 0) n = p
    generalize ft_sum (fun a b : Int64 => a + b) 0 (fun k => if T k = true then K k * v k else 0) n = q
    by_cases h : T n = true
    · rw [if_pos h, if_pos h, if_pos h]
      grind
    · rw [if_neg h, if_neg h, if_neg h]
      grind
