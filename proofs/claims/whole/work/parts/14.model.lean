/-! rows for the reference -/
theorem nand1 {a b : Bool} (h : ¬ a = true) : ¬ (a && b) = true := fun z => h (by cases a <;> cases b <;> simp_all)
theorem nand2 {a b : Bool} (h : ¬ b = true) : ¬ (a && b) = true := fun z => h (by cases a <;> cases b <;> simp_all)
theorem yand {a b : Bool} (h : a = true) (h2 : b = true) : (a && b) = true := by rw [h, h2]; rfl
theorem ft_tb_up1 (T : Nat → Bool) (j : Nat) : upd (ft_tb T) j 1 = ft_tb (fun i => if i = j then true else T i) := by
  funext i
  show (if i = j then (1 : Int32) else ft_tb T i) = (if (if i = j then true else T i) = true then 1 else 0)
  by_cases e : i = j
  · rw [if_pos e, if_pos e, if_pos rfl]
  · rw [if_neg e, if_neg e]
    rfl
theorem ft_tb_up0 (T : Nat → Bool) (j : Nat) : upd (ft_tb T) j 0 = ft_tb (fun i => if i = j then false else T i) := by
  funext i
  show (if i = j then (0 : Int32) else ft_tb T i) = (if (if i = j then false else T i) = true then 1 else 0)
  by_cases e : i = j
  · rw [if_pos e, if_pos e, if_neg (by decide)]
  · rw [if_neg e, if_neg e]
    rfl
/-- the best so far, as an int; the answer and the thrown code out of it -/
def ft_ob : Option Nat → Int32
  | none => -1
  | some b => nI b
def ft_or : Option Nat → Int32
  | none => 0
  | some b => nI b
def ft_ot : Option Nat → Int32
  | none => 1
  | some _ => 0
theorem ft_mnS_t {P : Nat → Bool} {lt : Nat → Nat → Bool} {i : Nat} {acc : Option Nat} (h1 : P i = true) (h2 : ft_lto lt i acc = true) : ft_mnS P lt i acc = some i := by
  unfold ft_mnS
  rw [if_pos (yand h1 h2)]
theorem ft_mnS_f1 {P : Nat → Bool} {lt : Nat → Nat → Bool} {i : Nat} {acc : Option Nat} (h1 : ¬ P i = true) : ft_mnS P lt i acc = acc := by
  unfold ft_mnS
  rw [if_neg (nand1 h1)]
theorem ft_mnS_f2 {P : Nat → Bool} {lt : Nat → Nat → Bool} {i : Nat} {acc : Option Nat} (h2 : ¬ ft_lto lt i acc = true) : ft_mnS P lt i acc = acc := by
  unfold ft_mnS
  rw [if_neg (nand2 h2)]
theorem ft_gf_s {α : Type} {step : Nat → α → α} {a0 acc x : α} {i : Nat} (h : ft_gf step a0 i = acc) (h2 : step i acc = x) : ft_gf step a0 (i + 1) = x := by
  show step i (ft_gf step a0 i) = x
  rw [h, h2]
theorem nI_ne_m1 {b : Nat} (h : b < 200) : ¬ nI b = -1 := by
  intro e
  have e1 := congrArg Int32.toInt e
  rw [nI_toInt (by omega)] at e1
  have e2 : (-1 : Int32).toInt = -1 := by decide
  omega
/-- keys slid up to the number i -/
def ft_ks (T : Nat → Bool) (K : Nat → Int64) (y : Int64) (i : Nat) : Nat → Int64 := fun n => if (decide (n < i) && T n) = true then K n + y else K n
theorem ft_ks_0 (T : Nat → Bool) (K : Nat → Int64) (y : Int64) : ft_ks T K y 0 = K := by
  funext n
  unfold ft_ks
  rw [if_neg (nand1 (by simp))]
theorem ft_ks_at {T : Nat → Bool} {K : Nat → Int64} {y : Int64} {i : Nat} : ft_ks T K y i i = K i := by
  unfold ft_ks
  rw [if_neg (nand1 (by simp))]
theorem ft_ks_t {T : Nat → Bool} {K : Nat → Int64} {y : Int64} {i : Nat} (h : T i = true) : vp_updL (ft_ks T K y i) i (K i + y) = ft_ks T K y (i + 1) := by
  funext n
  show (if n = i then K i + y else ft_ks T K y i n) = ft_ks T K y (i + 1) n
  unfold ft_ks
  by_cases e : n = i
  · rw [if_pos e, e, if_pos (yand (by simp) h)]
  · rw [if_neg e]
    have : decide (n < i + 1) = decide (n < i) := by
      rw [decide_eq_decide]
      omega
    rw [this]
theorem ft_ks_f {T : Nat → Bool} {K : Nat → Int64} {y : Int64} {i : Nat} (h : ¬ T i = true) : ft_ks T K y (i + 1) = ft_ks T K y i := by
  funext n
  unfold ft_ks
  by_cases e : n = i
  · rw [e, if_neg (nand2 h), if_neg (nand2 h)]
  · have : decide (n < i + 1) = decide (n < i) := by
      rw [decide_eq_decide]
      omega
    rw [this]
theorem ft_ks_at1 {T : Nat → Bool} {K : Nat → Int64} {y : Int64} {i : Nat} (h : T i = true) : ft_ks T K y (i + 1) i = K i + y := by
  unfold ft_ks
  rw [if_pos (yand (by simp) h)]
theorem ft_ks_200 {T : Nat → Bool} {K : Nat → Int64} {y : Int64} (h : ∀ n, T n = true → n < 200) : ft_ks T K y 200 = fun n => if T n = true then K n + y else K n := by
  funext n
  unfold ft_ks
  by_cases t : T n = true
  · rw [if_pos (yand (by simpa using h n t) t), if_pos t]
  · rw [if_neg (nand2 t), if_neg t]
/-- who is still there when the numbers below i with P are gone -/
def ft_tc (T P : Nat → Bool) (i : Nat) : Nat → Bool := fun n => T n && !(decide (n < i) && P n)
theorem ft_tc_0 (T P : Nat → Bool) : ft_tc T P 0 = T := by
  funext n
  unfold ft_tc
  simp
theorem ft_tc_at {T P : Nat → Bool} {i : Nat} : ft_tc T P i i = T i := by
  unfold ft_tc
  simp
theorem ft_tc_t {T P : Nat → Bool} {i : Nat} (h : P i = true) : (fun n => if n = i then false else ft_tc T P i n) = ft_tc T P (i + 1) := by
  funext n
  by_cases e : n = i
  · rw [if_pos e, e]
    unfold ft_tc
    simp [h]
  · rw [if_neg e]
    unfold ft_tc
    have : decide (n < i + 1) = decide (n < i) := by
      rw [decide_eq_decide]
      omega
    rw [this]
theorem ft_tc_f {T P : Nat → Bool} {i : Nat} (h : ¬ (T i && P i) = true) : ft_tc T P (i + 1) = ft_tc T P i := by
  funext n
  by_cases e : n = i
  · rw [e]
    unfold ft_tc
    cases hT : T i <;> cases hP : P i <;> simp_all
  · unfold ft_tc
    have : decide (n < i + 1) = decide (n < i) := by
      rw [decide_eq_decide]
      omega
    rw [this]
theorem ft_slP_t {T : Nat → Bool} {K : Nat → Int64} {y : Int64} {i : Nat} (h : ft_slP T K y i = true) (hT : T i = true) : ¬ (8796093022208 : Int64) < y ∧ ¬ y < -8796093022208 ∧ ¬ K i + y < -2199023255552 ∧ ¬ (2199023255552 : Int64) < K i + y := by
  unfold ft_slP at h
  rw [hT] at h
  simp only [Bool.true_and, Bool.not_eq_true', Bool.or_eq_false_iff, decide_eq_false_iff_not] at h
  exact ⟨h.1.1.1, h.1.1.2, h.1.2, h.2⟩
theorem ft_slP_of {T : Nat → Bool} {K : Nat → Int64} {y : Int64} {i : Nat} (h1 : ¬ (8796093022208 : Int64) < y) (h2 : ¬ y < -8796093022208) (h3 : ¬ K i + y < -2199023255552) (h4 : ¬ (2199023255552 : Int64) < K i + y) : ft_slP T K y i = true := by
  unfold ft_slP
  simp only [Bool.not_eq_true', Bool.and_eq_false_iff, Bool.or_eq_false_iff, decide_eq_false_iff_not]
  exact Or.inr ⟨⟨⟨h1, h2⟩, h3⟩, h4⟩
theorem ft_slP_no {T : Nat → Bool} {K : Nat → Int64} {y : Int64} {i : Nat} (h : ¬ T i = true) : ft_slP T K y i = true := by
  unfold ft_slP
  rw [show T i = false by simpa using h]
  rfl
theorem ft_gf_t {α : Type} {P : Nat → Bool} {g : Nat → α → α} {a0 : α} {i : Nat} (h : P i = true) : g i (ft_gf (fun k acc => if P k = true then g k acc else acc) a0 i) = ft_gf (fun k acc => if P k = true then g k acc else acc) a0 (i + 1) := by
  show _ = (if P i = true then g i (ft_gf (fun k acc => if P k = true then g k acc else acc) a0 i) else _)
  rw [if_pos h]
theorem ft_gf_f {α : Type} {P : Nat → Bool} {g : Nat → α → α} {a0 : α} {i : Nat} (h : ¬ P i = true) : ft_gf (fun k acc => if P k = true then g k acc else acc) a0 (i + 1) = ft_gf (fun k acc => if P k = true then g k acc else acc) a0 i := by
  show (if P i = true then g i (ft_gf (fun k acc => if P k = true then g k acc else acc) a0 i) else ft_gf (fun k acc => if P k = true then g k acc else acc) a0 i) = _
  rw [if_neg h]
