/-! the order: numbers in a row, by key and then by number -/
def ft_bf (K : Nat → Int64) (a b : Nat) : Prop := K a < K b ∨ (K a = K b ∧ a < b)
theorem ft_bf_irr {K : Nat → Int64} {a : Nat} : ¬ ft_bf K a a := by
  unfold ft_bf
  simp only [Int64.lt_iff_toInt_lt, ← Int64.toInt_inj]
  omega
theorem ft_bf_tr {K : Nat → Int64} {a b c : Nat} (h1 : ft_bf K a b) (h2 : ft_bf K b c) : ft_bf K a c := by
  unfold ft_bf at *
  simp only [Int64.lt_iff_toInt_lt, ← Int64.toInt_inj] at *
  omega
theorem ft_bf_tot {K : Nat → Int64} {a b : Nat} (h : a ≠ b) : ft_bf K a b ∨ ft_bf K b a := by
  unfold ft_bf
  simp only [Int64.lt_iff_toInt_lt, ← Int64.toInt_inj]
  omega
/-- T: who is there; K, w: keys and weights; the numbers that are there stand in the row Lf 0 .. Lf (sz - 1) in the order -/
def ft_iv (T : Nat → Bool) (K : Nat → Int64) (w : Nat → Int32) (Lf : Nat → Nat) (sz : Nat) : Prop :=
  (∀ n, T n = true → n < 200 ∧ 1 ≤ (w n).toInt ∧ (w n).toInt ≤ 1000 ∧ -2199023255552 ≤ (K n).toInt ∧ (K n).toInt ≤ 2199023255552) ∧
  (∀ i, i < sz → T (Lf i) = true) ∧ (∀ n, T n = true → ∃ i, i < sz ∧ Lf i = n) ∧ (∀ i j, i < j → j < sz → ft_bf K (Lf i) (Lf j))
theorem ft_iv_0 (K : Nat → Int64) (w : Nat → Int32) (Lf : Nat → Nat) : ft_iv (fun _ => false) K w Lf 0 :=
  ⟨fun _ h => (by cases h), fun _ h => (by omega), fun _ h => (by cases h), fun _ _ _ h => (by omega)⟩
theorem ft_iv_ne {T : Nat → Bool} {K : Nat → Int64} {w : Nat → Int32} {Lf : Nat → Nat} {sz : Nat} (h : ft_iv T K w Lf sz) {i j : Nat} (hij : i < j) (hj : j < sz) : Lf i ≠ Lf j := by
  intro e
  have h1 := h.2.2.2 i j hij hj
  rw [e] at h1
  exact ft_bf_irr h1
theorem ft_iv_inj {T : Nat → Bool} {K : Nat → Int64} {w : Nat → Int32} {Lf : Nat → Nat} {sz : Nat} (h : ft_iv T K w Lf sz) {i j : Nat} (hi : i < sz) (hj : j < sz) (e : Lf i = Lf j) : i = j := by
  rcases Nat.lt_trichotomy i j with c | c | c
  · exact absurd e (ft_iv_ne h c hj)
  · exact c
  · exact absurd e.symm (ft_iv_ne h c hi)
theorem ft_iv_lt {T : Nat → Bool} {K : Nat → Int64} {w : Nat → Int32} {Lf : Nat → Nat} {sz : Nat} (h : ft_iv T K w Lf sz) {i : Nat} (hi : i < sz) : Lf i < 200 := (h.1 _ (h.2.1 i hi)).1
/-- a beginning of the row against the numbers that it holds -/
theorem ft_iv_pre {α : Type} {op : α → α → α} {z : α} (hc : ∀ a b, op a b = op b a) (ha : ∀ a b c, op (op a b) c = op a (op b c)) (hz : ∀ a, op a z = a)
    {T : Nat → Bool} {K : Nat → Int64} {w : Nat → Int32} {Lf : Nat → Nat} {sz : Nat} (h : ft_iv T K w Lf sz) (f : Nat → α) (P : Nat → Bool) {p : Nat} (hp : p ≤ sz)
    (h1 : ∀ i, i < p → P (Lf i) = true) (h2 : ∀ i, p ≤ i → i < sz → P (Lf i) = false) :
    ft_sum op z (fun i => f (Lf i)) p = ft_sum op z (fun n => if (T n && P n) = true then f n else z) 200 := by
  refine ft_perm hc ha hz f 200 p (fun n => T n && P n) Lf (fun i hi => ⟨ft_iv_lt h (by omega), ?_⟩) (fun n _ ht => ?_) (fun i j hi hj => ft_iv_ne h hi (by omega))
  · show (T (Lf i) && P (Lf i)) = true
    rw [h.2.1 i (by omega), h1 i hi]; rfl
  · have ht : (T n && P n) = true := ht
    rw [Bool.and_eq_true] at ht
    obtain ⟨i, hi, e⟩ := h.2.2.1 n ht.1
    refine ⟨i, ?_, e⟩
    by_cases c : i < p
    · exact c
    · have := h2 i (by omega) hi
      rw [e, ht.2] at this
      cases this
theorem ft_iv_sum {α : Type} {op : α → α → α} {z : α} (hc : ∀ a b, op a b = op b a) (ha : ∀ a b c, op (op a b) c = op a (op b c)) (hz : ∀ a, op a z = a)
    {T : Nat → Bool} {K : Nat → Int64} {w : Nat → Int32} {Lf : Nat → Nat} {sz : Nat} (h : ft_iv T K w Lf sz) (f : Nat → α) :
    ft_sum op z (fun i => f (Lf i)) sz = ft_sum op z (fun n => if T n = true then f n else z) 200 :=
  ft_perm hc ha hz f 200 sz T Lf (fun i hi => ⟨ft_iv_lt h hi, h.2.1 i hi⟩) (fun n _ ht => h.2.2.1 n ht) (fun i j hi hj => ft_iv_ne h hi hj)
/-- how many there are -/
def ft_cnt (P : Nat → Bool) (n : Nat) : Nat := ft_sum (fun a b : Nat => a + b) 0 (fun k => if P k = true then 1 else 0) n
theorem ft_cnt_le (P : Nat → Bool) (n : Nat) : ft_cnt P n ≤ n := by
  induction n with
  | zero => exact Nat.le_refl _
  | succ n ih =>
    have h2 : (if P n = true then 1 else 0) ≤ 1 := by
      by_cases h : P n = true
      · rw [if_pos h]; omega
      · rw [if_neg h]; omega
    have e : ft_cnt P (n + 1) = ft_cnt P n + (if P n = true then 1 else 0) := rfl
    omega
theorem ft_iv_cnt {T : Nat → Bool} {K : Nat → Int64} {w : Nat → Int32} {Lf : Nat → Nat} {sz : Nat} (h : ft_iv T K w Lf sz) : ft_cnt T 200 = sz := by
  have e := ft_iv_sum (op := fun a b : Nat => a + b) (z := 0) (fun a b => Nat.add_comm a b) (fun a b c => Nat.add_assoc a b c) (fun a => Nat.add_zero a) h (fun _ => 1)
  rw [ft_sum_one] at e
  exact e.symm
theorem ft_iv_le {T : Nat → Bool} {K : Nat → Int64} {w : Nat → Int32} {Lf : Nat → Nat} {sz : Nat} (h : ft_iv T K w Lf sz) : sz ≤ 200 := by
  rw [← ft_iv_cnt h]
  exact ft_cnt_le T 200
theorem ft_iv_preCnt {T : Nat → Bool} {K : Nat → Int64} {w : Nat → Int32} {Lf : Nat → Nat} {sz : Nat} (h : ft_iv T K w Lf sz) (P : Nat → Bool) {p : Nat} (hp : p ≤ sz)
    (h1 : ∀ i, i < p → P (Lf i) = true) (h2 : ∀ i, p ≤ i → i < sz → P (Lf i) = false) : ft_cnt (fun n => T n && P n) 200 = p := by
  have e := ft_iv_pre (op := fun a b : Nat => a + b) (z := 0) (fun a b => Nat.add_comm a b) (fun a b c => Nat.add_assoc a b c) (fun a => Nat.add_zero a) h (fun _ => 1) P hp h1 h2
  rw [ft_sum_one] at e
  exact e.symm
/-- one more number at its place -/
theorem ft_iv_ins {T : Nat → Bool} {K : Nat → Int64} {w : Nat → Int32} {Lf : Nat → Nat} {sz : Nat} (h : ft_iv T K w Lf sz) {n : Nat} (hn : n < 200) (hT : T n = false) {k : Int64} {x : Int32}
    (hx : 1 ≤ x.toInt ∧ x.toInt ≤ 1000) (hk : -2199023255552 ≤ k.toInt ∧ k.toInt ≤ 2199023255552) {p : Nat} (hp : p ≤ sz)
    (h1 : ∀ i, i < p → (K (Lf i) < k ∨ (K (Lf i) = k ∧ Lf i < n))) (h2 : p < sz → ¬ (K (Lf p) < k ∨ (K (Lf p) = k ∧ Lf p < n))) :
    ft_iv (fun j => if j = n then true else T j) (vp_updL K n k) (upd w n x) (fun i => if i < p then Lf i else if i = p then n else Lf (i - 1)) (sz + 1) := by
  have hne : ∀ i, i < sz → Lf i ≠ n := fun i hi e => by
    have := h.2.1 i hi
    rw [e, hT] at this
    cases this
  have hKe : ∀ i, i < sz → vp_updL K n k (Lf i) = K (Lf i) := fun i hi => pk_uLn (hne i hi)
  have hKn : vp_updL K n k n = k := pk_uLs
  have lo : ∀ i, i < p → (fun i => if i < p then Lf i else if i = p then n else Lf (i - 1)) i = Lf i := fun i hi => by
    show (if i < p then Lf i else if i = p then n else Lf (i - 1)) = Lf i
    rw [if_pos hi]
  have mi : (fun i => if i < p then Lf i else if i = p then n else Lf (i - 1)) p = n := by
    show (if p < p then Lf p else if p = p then n else Lf (p - 1)) = n
    rw [if_neg (by omega), if_pos rfl]
  have hi : ∀ i, p < i → (fun i => if i < p then Lf i else if i = p then n else Lf (i - 1)) i = Lf (i - 1) := fun i hi => by
    show (if i < p then Lf i else if i = p then n else Lf (i - 1)) = Lf (i - 1)
    rw [if_neg (by omega), if_neg (by omega)]
  generalize (fun i => if i < p then Lf i else if i = p then n else Lf (i - 1)) = M at lo mi hi ⊢
  have old : ∀ i j, i < j → j < sz → ft_bf (vp_updL K n k) (Lf i) (Lf j) := fun i j hij hj => by
    have := h.2.2.2 i j hij hj
    unfold ft_bf at this ⊢
    rw [hKe i (by omega), hKe j hj]
    exact this
  have tol : ∀ i, i < p → ft_bf (vp_updL K n k) (Lf i) n := fun i hi => by
    unfold ft_bf
    rw [hKe i (by omega), hKn]
    exact h1 i hi
  have tor : ∀ i, p ≤ i → i < sz → ft_bf (vp_updL K n k) n (Lf i) := fun i hi hs => by
    have hq : ft_bf (vp_updL K n k) n (Lf p) := by
      rcases ft_bf_tot (K := vp_updL K n k) (hne p (by omega)) with c | c
      · exfalso
        refine h2 (by omega) ?_
        unfold ft_bf at c
        rw [hKe p (by omega), hKn] at c
        exact c
      · exact c
    by_cases e : i = p
    · rw [e]; exact hq
    · exact ft_bf_tr hq (old p i (by omega) hs)
  refine ⟨fun j hj => ?_, fun i hs => ?_, fun j hj => ?_, fun i j hij hj => ?_⟩
  · by_cases e : j = n
    · subst e
      rw [hKn, pk_us]
      exact ⟨hn, hx.1, hx.2, hk.1, hk.2⟩
    · have hj : (if j = n then true else T j) = true := hj
      rw [if_neg e] at hj
      rw [pk_un e, pk_uLn e]
      exact h.1 j hj
  · show (if M i = n then true else T (M i)) = true
    rcases Nat.lt_trichotomy i p with c | c | c
    · rw [lo i c, if_neg (hne i (by omega))]
      exact h.2.1 i (by omega)
    · rw [c, mi, if_pos rfl]
    · rw [hi i c, if_neg (hne (i - 1) (by omega))]
      exact h.2.1 (i - 1) (by omega)
  · have hj : (if j = n then true else T j) = true := hj
    by_cases e : j = n
    · exact ⟨p, by omega, by rw [mi, e]⟩
    · rw [if_neg e] at hj
      obtain ⟨i, hs, ei⟩ := h.2.2.1 j hj
      by_cases c : i < p
      · exact ⟨i, by omega, by rw [lo i c, ei]⟩
      · exact ⟨i + 1, by omega, by rw [hi (i + 1) (by omega), Nat.add_sub_cancel, ei]⟩
  · rcases Nat.lt_trichotomy j p with c | c | c
    · rw [lo i (by omega), lo j c]
      exact old i j hij (by omega)
    · rw [c, mi, lo i (by omega)]
      exact tol i (by omega)
    · rw [hi j c]
      rcases Nat.lt_trichotomy i p with d | d | d
      · rw [lo i d]
        exact old i (j - 1) (by omega) (by omega)
      · rw [d, mi]
        exact tor (j - 1) (by omega) (by omega)
      · rw [hi i d]
        exact old (i - 1) (j - 1) (by omega) (by omega)
/-- a stretch of places goes -/
theorem ft_iv_rem {T T' : Nat → Bool} {K : Nat → Int64} {w : Nat → Int32} {Lf : Nat → Nat} {sz : Nat} (h : ft_iv T K w Lf sz) {a b : Nat} (hab : a ≤ b) (hb : b ≤ sz)
    (hT : ∀ n, T' n = true ↔ T n = true ∧ ∀ i, a ≤ i → i < b → Lf i ≠ n) :
    ft_iv T' K w (fun i => if i < a then Lf i else Lf (i + (b - a))) (sz - (b - a)) := by
  have lo : ∀ i, i < a → (fun i => if i < a then Lf i else Lf (i + (b - a))) i = Lf i := fun i hi => by
    show (if i < a then Lf i else Lf (i + (b - a))) = Lf i
    rw [if_pos hi]
  have hi : ∀ i, a ≤ i → (fun i => if i < a then Lf i else Lf (i + (b - a))) i = Lf (i + (b - a)) := fun i hi => by
    show (if i < a then Lf i else Lf (i + (b - a))) = Lf (i + (b - a))
    rw [if_neg (by omega)]
  generalize (fun i => if i < a then Lf i else Lf (i + (b - a))) = M at lo hi ⊢
  refine ⟨fun n hn => h.1 n ((hT n).mp hn).1, fun i hs => ?_, fun n hn => ?_, fun i j hij hj => ?_⟩
  · by_cases c : i < a
    · rw [lo i c]
      exact (hT _).mpr ⟨h.2.1 i (by omega), fun q h1 h2 e => by have := ft_iv_inj h (by omega) (by omega) e; omega⟩
    · rw [hi i (by omega)]
      exact (hT _).mpr ⟨h.2.1 _ (by omega), fun q h1 h2 e => by have := ft_iv_inj h (by omega) (by omega) e; omega⟩
  · obtain ⟨h1, h2⟩ := (hT n).mp hn
    obtain ⟨i, hs, e⟩ := h.2.2.1 n h1
    by_cases c : i < a
    · exact ⟨i, by omega, by rw [lo i c, e]⟩
    · by_cases c2 : i < b
      · exact absurd e (h2 i (by omega) c2)
      · exact ⟨i - (b - a), by omega, by rw [hi _ (by omega), ← e]; congr 1; omega⟩
  · by_cases c : j < a
    · rw [lo i (by omega), lo j c]
      exact h.2.2.2 i j hij (by omega)
    · rw [hi j (by omega)]
      by_cases c2 : i < a
      · rw [lo i c2]
        exact h.2.2.2 i _ (by omega) (by omega)
      · rw [hi i (by omega)]
        exact h.2.2.2 _ _ (by omega) (by omega)
theorem ft_add64 {a b : Int64} (h1 : -9223372036854775808 ≤ a.toInt + b.toInt) (h2 : a.toInt + b.toInt < 9223372036854775808) : (a + b).toInt = a.toInt + b.toInt := by
  rw [Int64.toInt_add]
  exact Int.bmod_eq_of_le (by omega) (by omega)
theorem ft_sub64 {a b : Int64} (h1 : -9223372036854775808 ≤ a.toInt - b.toInt) (h2 : a.toInt - b.toInt < 9223372036854775808) : (a - b).toInt = a.toInt - b.toInt := by
  rw [Int64.toInt_sub]
  exact Int.bmod_eq_of_le (by omega) (by omega)
theorem ft_mul64 {a b : Int64} (h1 : -9223372036854775808 ≤ a.toInt * b.toInt) (h2 : a.toInt * b.toInt < 9223372036854775808) : (a * b).toInt = a.toInt * b.toInt := by
  rw [Int64.toInt_mul]
  exact Int.bmod_eq_of_le (by omega) (by omega)
theorem ft_add32 {a b : Int32} (h1 : -2147483648 ≤ a.toInt + b.toInt) (h2 : a.toInt + b.toInt < 2147483648) : (a + b).toInt = a.toInt + b.toInt := by
  rw [Int32.toInt_add]
  exact Int.bmod_eq_of_le (by omega) (by omega)
/-- all keys go by so much -/
theorem ft_iv_sld {T : Nat → Bool} {K : Nat → Int64} {w : Nat → Int32} {Lf : Nat → Nat} {sz : Nat} (h : ft_iv T K w Lf sz) {y : Int64}
    (hb : ∀ n, T n = true → -2199023255552 ≤ (K n).toInt + y.toInt ∧ (K n).toInt + y.toInt ≤ 2199023255552) : ft_iv T (fun n => if T n = true then K n + y else K n) w Lf sz := by
  have e : ∀ n, T n = true → ((fun n => if T n = true then K n + y else K n) n).toInt = (K n).toInt + y.toInt := fun n hn => by
    show (if T n = true then K n + y else K n).toInt = _
    rw [if_pos hn]
    have := hb n hn
    exact ft_add64 (by omega) (by omega)
  generalize (fun n => if T n = true then K n + y else K n) = K2 at e ⊢
  refine ⟨fun n hn => ?_, h.2.1, h.2.2.1, fun i j hij hj => ?_⟩
  · have h1 := h.1 n hn
    have h2 := hb n hn
    rw [e n hn]
    exact ⟨h1.1, h1.2.1, h1.2.2.1, h2.1, h2.2⟩
  · have h1 := h.2.2.2 i j hij hj
    have ei := e _ (h.2.1 i (by omega))
    have ej := e _ (h.2.1 j hj)
    unfold ft_bf at h1 ⊢
    simp only [Int64.lt_iff_toInt_lt, ← Int64.toInt_inj] at h1 ⊢
    rw [ei, ej]
    omega
