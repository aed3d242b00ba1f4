/-! one call of the script: class and reference answer alike and stay alike -/
def nT (T : Nat → Bool) (x : Int32) : Prop := (∃ j, j < 200 ∧ x = nI j ∧ ¬ T j = true) ∨ (x < 0 ∨ 200 ≤ x)
theorem sp_T (T : Nat → Bool) (x : Int32) : (∃ j, j < 200 ∧ x = nI j ∧ T j = true) ∨ nT T x := by
  rcases pk_ix x (n := 200) (by decide) with h | h | ⟨j, hj, e⟩
  · exact Or.inr (Or.inr (Or.inl h))
  · exact Or.inr (Or.inr (Or.inr h))
  · by_cases hT : T j = true
    · exact Or.inl ⟨j, hj, e, hT⟩
    · exact Or.inr (Or.inl ⟨j, hj, e, hT⟩)
theorem cwt_t {T : Nat → Bool} {w : Nat → Int32} {j : Nat} (h : T j = true) : cwt T w j = w j := if_pos h
theorem cwt_f {T : Nat → Bool} {w : Nat → Int32} {j : Nat} (h : ¬ T j = true) : cwt T w j = 0 := if_neg h
theorem cwt_no {T : Nat → Bool} {w : Nat → Int32} {j : Nat} (h : ¬ T j = true) : cwt T w j ≤ 0 := by
  rw [cwt_f h]
  decide
theorem cwt_pos {T : Nat → Bool} {K : Nat → Int64} {w : Nat → Int32} {Lf : Nat → Nat} {sz : Nat} (hi : ft_iv T K w Lf sz) {j : Nat} (h : T j = true) : 0 < cwt T w j := by
  rw [cwt_t h, Int32.lt_iff_toInt_lt]
  have h2 := (hi.1 j h).2.1
  have h3 : (0 : Int32).toInt = 0 := rfl
  omega
theorem is_no (l : Launch) (G : va_G) (a : Nat → Nat) (C : Nat → ClassId) (K D : Nat → Int64) (O : Nat → Int32) (n : Int32) {T : Nat → Bool} {w : Nat → Int32} {x : Int32} (h : nT T x) : Met l yX0_isThere wsX0_isThere { frames := 1, cells := 0, slots := 0, locals := 30 } (va_Pc [.ref (a 0), .int x] (rX G a C K D (cwt T w) O n)) (rd_Q (.int 0)) 0 0 (fun _ => False) := by
  rcases h with ⟨j, hj, e, hT⟩ | h
  · subst e
    exact cx_isThere_no l G a C K D _ O n hj (cwt_no hT)
  · exact cx_isThere_out l G a C K D _ O n h
theorem no_no (l : Launch) (G : va_G) (a : Nat → Nat) (C : Nat → ClassId) {A : Nat → Prop} (hD : ∀ T K D w th, va_D A (wM a C T K D w th)) (K D : Nat → Int64) (th : Int32) {T : Nat → Bool} {w : Nat → Int32} {x : Int32} (h : nT T x) : Met l yX1_no wsX1_no rm0 (va_Pc [.ref (a 0), .int x] (rM G a C T K D w th)) (wr_Q G vwCl (some (.int 1)) (wM a C T K D w 1) A) 0 0 A := by
  rcases h with ⟨j, hj, e, hT⟩ | h
  · subst e
    exact cm_no_not l G a C hD T K D w th hj hT
  · exact cm_no_out l G a C hD T K D w th h
theorem zr_cwt {T T' : Nat → Bool} {w : Nat → Int32} {Lf : Nat → Nat} {a b : Nat} (hab : a ≤ b) (hT : ∀ n, T' n = true ↔ T n = true ∧ ∀ i, a ≤ i → i < b → Lf i ≠ n) : ft_zr Lf (b - a) a (cwt T w) = cwt T' w := by
  funext n
  by_cases he : ∃ j, a ≤ j ∧ j < a + (b - a) ∧ Lf j = n
  · rw [ft_zr_in Lf _ _ _ _ he, cwt_f]
    intro hn
    obtain ⟨j, h1, h2, h3⟩ := he
    exact ((hT n).mp hn).2 j h1 (by omega) h3
  · rw [ft_zr_out Lf _ _ _ _ he]
    by_cases hn : T n = true
    · rw [cwt_t hn, cwt_t ((hT n).mpr ⟨hn, fun i h1 h2 h3 => he ⟨i, h1, by omega, h3⟩⟩)]
    · rw [cwt_f hn, cwt_f (fun z => hn ((hT n).mp z).1)]
theorem rem1 {T : Nat → Bool} {K : Nat → Int64} {w : Nat → Int32} {Lf : Nat → Nat} {sz q j : Nat} (hLq : Lf q = j) : ∀ n, (fun i => if i = j then false else T i) n = true ↔ T n = true ∧ ∀ i, q ≤ i → i < q + 1 → Lf i ≠ n := by
  intro n
  show (if n = j then false else T n) = true ↔ _
  by_cases hn : n = j
  · rw [if_pos hn]
    exact ⟨fun z => (by cases z), fun z => absurd (hLq.trans hn.symm) (z.2 q (Nat.le_refl _) (by omega))⟩
  · rw [if_neg hn]
    refine ⟨fun z => ⟨z, fun i h1 h2 h3 => ?_⟩, fun z => z.1⟩
    have : i = q := by omega
    subst this
    exact hn (h3.symm.trans hLq)
theorem rem_iv {T : Nat → Bool} {K : Nat → Int64} {w : Nat → Int32} {Lf : Nat → Nat} {sz q j : Nat} (hi : ft_iv T K w Lf sz) (hq : q < sz) (hLq : Lf q = j) : ft_iv (fun i => if i = j then false else T i) K w (ft_rm Lf q (q + 1)) (sz - 1) := by
  have h1 := ft_iv_rem hi (Nat.le_succ q) hq (rem1 (T := T) (K := K) (w := w) (sz := sz) hLq)
  have h2 : sz - (q + 1 - q) = sz - 1 := by omega
  rw [h2] at h1
  exact h1
theorem up_cwt {T : Nat → Bool} {w : Nat → Int32} {j : Nat} {x : Int32} : upd (cwt T w) j x = cwt (fun i => if i = j then true else T i) (upd w j x) := by
  funext n
  unfold cwt
  by_cases hn : n = j
  · subst hn
    rw [pk_us, if_pos (if_pos rfl), pk_us]
  · rw [pk_un hn, pk_un hn]
    show _ = (if (if n = j then true else T n) = true then w n else 0)
    rw [if_neg hn]
theorem up_T {T : Nat → Bool} {j : Nat} : (fun i => if i = j then true else (fun i => if i = j then false else T i) i) = (fun i => if i = j then true else T i) := by
  funext n
  show (if n = j then true else if n = j then false else T n) = (if n = j then true else T n)
  by_cases hn : n = j
  · rw [if_pos hn, if_pos hn]
  · rw [if_neg hn, if_neg hn, if_neg hn]
theorem ins_fb {T : Nat → Bool} {K : Nat → Int64} {w : Nat → Int32} {Lf : Nat → Nat} {sz j : Nat} (hi : ft_iv T K w Lf sz) (hj : j < 200) (hT : T j = false) {key : Int64} {q : Nat} (hq : ft_fb (fun i => ft_sb (vp_updL K j key) ((vp_updL K j key) j) (nI j) (Lf i)) sz 0 = q) :
    q ≤ sz ∧ (∀ i, i < q → (K (Lf i) < key ∨ (K (Lf i) = key ∧ Lf i < j))) ∧ (q < sz → ¬ (K (Lf q) < key ∨ (K (Lf q) = key ∧ Lf q < j))) := by
  have h1 := ft_fb_spec (fun i => ft_sb (vp_updL K j key) ((vp_updL K j key) j) (nI j) (Lf i)) sz 0
  rw [hq] at h1
  have key1 : ∀ i, i < sz → (ft_sb (vp_updL K j key) ((vp_updL K j key) j) (nI j) (Lf i) = true ↔ (K (Lf i) < key ∨ (K (Lf i) = key ∧ Lf i < j))) := by
    intro i h2
    have h3 : Lf i ≠ j := fun z => by
      have := hi.2.1 i h2
      rw [z, hT] at this
      cases this
    have h4 := ft_iv_lt hi h2
    rw [ft_sb_iff, pk_uLn h3, pk_uLs, nI_ltI (by omega) (by omega)]
  have h5 : q ≤ sz := by omega
  exact ⟨h5, fun i h2 => (key1 i (by omega)).mp (h1.2.2.1 i (by omega) h2), fun h2 h3 => by
    have h6 := h1.2.2.2 (by omega)
    rw [(key1 q h2).mpr h3] at h6
    cases h6⟩
theorem i64_min (x : Int64) : ¬ x < -9223372036854775808 := by
  rw [Int64.lt_iff_toInt_lt]
  have h1 : (-9223372036854775808 : Int64).toInt = -9223372036854775808 := rfl
  have h2 := Int64.le_toInt x
  omega
theorem lo_zero {T : Nat → Bool} {K : Nat → Int64} {w : Nat → Int32} {Lf : Nat → Nat} {sz : Nat} (hi : ft_iv T K w Lf sz) : ft_fb (fun i => ft_sb K (-9223372036854775808) 0 (Lf i)) sz 0 = 0 := by
  refine ft_fb_eq (Nat.zero_le _) (fun j h => by omega) (fun h => ?_)
  show ft_sb K (-9223372036854775808) 0 (Lf 0) = false
  rw [ft_sb_0 (ft_iv_lt hi h)]
  exact decide_eq_false (i64_min _)
theorem st_some {T : Nat → Bool} {K D : Nat → Int64} {w : Nat → Int32} {Lf : Nat → Nat} {sz : Nat} (h : ft_iv T K w Lf sz) (lo hi : Int64) {a b : Nat} (ha : ft_fb (fun i => ft_sb K lo 0 (Lf i)) sz 0 = a) (hb : ft_fb (fun i => ft_sb K hi 200 (Lf i)) sz 0 = b) (hab : a < b) :
    ft_gf (ft_mnS (fun n => T n && (decide (lo ≤ K n) && decide (K n ≤ hi))) (fun n c => decide (D n < D c))) none 200 = some (ft_em D Lf (b - a - 1) (a + 1) (Lf a)) := by
  have h1 := ft_stretch h lo hi
  rw [ha, hb] at h1
  refine (ft_first h hab h1.2.1 (fun i h2 h3 => ?_) (fun n h2 h3 => ?_)).1
  · have h4 := (h1.2.2 i (by omega)).mp ⟨h2, h3⟩
    exact yand (h.2.1 i (by omega)) (yand (decide_eq_true h4.1) (decide_eq_true h4.2))
  · rw [Bool.and_eq_true, Bool.and_eq_true, decide_eq_true_iff, decide_eq_true_iff] at h3
    obtain ⟨i, h4, h5⟩ := h.2.2.1 n h3.1
    subst h5
    have h6 := (h1.2.2 i h4).mpr h3.2
    exact ⟨i, h6.1, h6.2, rfl⟩
theorem st_none {T : Nat → Bool} {K D : Nat → Int64} {w : Nat → Int32} {Lf : Nat → Nat} {sz : Nat} (h : ft_iv T K w Lf sz) (lo hi : Int64) {a b : Nat} (ha : ft_fb (fun i => ft_sb K lo 0 (Lf i)) sz 0 = a) (hb : ft_fb (fun i => ft_sb K hi 200 (Lf i)) sz 0 = b) (hab : b ≤ a) :
    (∀ n, T n = true → ¬ (lo ≤ K n ∧ K n ≤ hi)) ∧ ft_gf (ft_mnS (fun n => T n && (decide (lo ≤ K n) && decide (K n ≤ hi))) (fun n c => decide (D n < D c))) none 200 = none := by
  have h1 := ft_stretch h lo hi
  rw [ha, hb] at h1
  have h2 : ∀ n, T n = true → ¬ (lo ≤ K n ∧ K n ≤ hi) := fun n hn z => by
    obtain ⟨i, h4, h5⟩ := h.2.2.1 n hn
    subst h5
    have h6 := (h1.2.2 i h4).mpr z
    omega
  refine ⟨h2, ft_mn_none (fun k hk => ?_) 200 (Nat.le_refl _)⟩
  rw [Bool.eq_false_iff]
  intro h3
  simp only [Bool.and_eq_true, decide_eq_true_iff] at h3
  exact h2 k h3.1 h3.2
theorem pk_some {T : Nat → Bool} {K D : Nat → Int64} {w : Nat → Int32} {Lf : Nat → Nat} {sz : Nat} (h : ft_iv T K w Lf sz) {b : Nat} (hb : ft_fb (fun i => decide (K (Lf i) * ft_W64 T w ≤ ft_S64 T K w)) sz 0 = b) (hab : 0 < b) :
    ft_gf (ft_mnS (fun n => T n && decide (ft_ld T K w (K n) ≤ 0)) (fun n c => decide (D n < D c))) none 200 = some (ft_em D Lf (b - 0 - 1) (0 + 1) (Lf 0)) := by
  have h1 := ft_fair_row h
  rw [hb] at h1
  refine (ft_first h hab h1.1 (fun i h2 h3 => ?_) (fun n h2 h3 => ?_)).1
  · exact yand (h.2.1 i (by omega)) (decide_eq_true (h1.2.1 i h3))
  · rw [Bool.and_eq_true, decide_eq_true_iff] at h3
    obtain ⟨i, h4, h5⟩ := h.2.2.1 n h3.1
    subst h5
    refine ⟨i, Nat.zero_le _, ?_, rfl⟩
    rcases Nat.lt_or_ge i b with h6 | h6
    · exact h6
    · exact absurd h3.2 (h1.2.2 i h6 h4)
theorem pk_none {T : Nat → Bool} {K D : Nat → Int64} {w : Nat → Int32} {Lf : Nat → Nat} {sz : Nat} (h : ft_iv T K w Lf sz) {b : Nat} (hb : ft_fb (fun i => decide (K (Lf i) * ft_W64 T w ≤ ft_S64 T K w)) sz 0 = b) (hab : b ≤ 0) :
    ft_gf (ft_mnS (fun n => T n && decide (ft_ld T K w (K n) ≤ 0)) (fun n c => decide (D n < D c))) none 200 = none := by
  have h1 := ft_fair_row h
  rw [hb] at h1
  refine ft_mn_none (fun k hk => ?_) 200 (Nat.le_refl _)
  rw [Bool.eq_false_iff]
  intro h3
  rw [Bool.and_eq_true, decide_eq_true_iff] at h3
  obtain ⟨i, h4, h5⟩ := h.2.2.1 k h3.1
  subst h5
  exact h1.2.2 i (by omega) h4 h3.2
theorem or_some {b : Nat} : ft_or (some b) = nI b := rfl
theorem or_none : ft_or none = 0 := rfl
theorem ot_some {b : Nat} : ft_ot (some b) = 0 := rfl
theorem ot_none : ft_ot none = 1 := rfl
theorem hf_none {T : Nat → Bool} {K : Nat → Int64} {w : Nat → Int32} {Lf : Nat → Nat} (h : ft_iv T K w Lf 0) : ft_gf (ft_mnS (ft_halfP T K w) (fun n b => ft_sb K (K b) (nI b) n)) none 200 = none := by
  refine ft_mn_none (fun k hk => ?_) 200 (Nat.le_refl _)
  rw [Bool.eq_false_iff]
  intro h3
  unfold ft_halfP at h3
  rw [Bool.and_eq_true] at h3
  obtain ⟨i, h4, _⟩ := h.2.2.1 k h3.1
  omega
theorem x012 (x : Int32) : x = 0 ∨ x = 1 ∨ x = 2 ∨ (¬ x = 0 ∧ ¬ x = 1 ∧ ¬ x = 2 ∧ (x.toInt < 0 ∨ 2 < x.toInt)) := by
  by_cases h0 : x = 0
  · exact Or.inl h0
  by_cases h1 : x = 1
  · exact Or.inr (Or.inl h1)
  by_cases h2 : x = 2
  · exact Or.inr (Or.inr (Or.inl h2))
  refine Or.inr (Or.inr (Or.inr ⟨h0, h1, h2, ?_⟩))
  have e0 : ¬ x.toInt = 0 := fun z => h0 (Int32.toInt_inj.mp z)
  have e1 : ¬ x.toInt = 1 := fun z => h1 (Int32.toInt_inj.mp z)
  have e2 : ¬ x.toInt = 2 := fun z => h2 (Int32.toInt_inj.mp z)
  omega
theorem cut_T {T : Nat → Bool} {K : Nat → Int64} {w : Nat → Int32} {Lf : Nat → Nat} {sz : Nat} (h : ft_iv T K w Lf sz) (lo hi : Int64) {a b : Nat} (ha : ft_fb (fun i => ft_sb K lo 0 (Lf i)) sz 0 = a) (hb : ft_fb (fun i => ft_sb K hi 200 (Lf i)) sz 0 = b) :
    ∀ n, ft_tc T (fun n => decide (lo ≤ K n) && decide (K n ≤ hi)) 200 n = true ↔ T n = true ∧ ∀ i, a ≤ i → i < b → Lf i ≠ n := by
  have h1 := ft_stretch h lo hi
  rw [ha, hb] at h1
  intro n
  unfold ft_tc
  constructor
  · intro z
    rw [Bool.and_eq_true] at z
    refine ⟨z.1, fun i h2 h3 h4 => ?_⟩
    subst h4
    have h5 := (h1.2.2 i (by omega)).mp ⟨h2, h3⟩
    have h6 := ft_iv_lt h (show i < sz by omega)
    have h7 : (!(decide (Lf i < 200) && (decide (lo ≤ K (Lf i)) && decide (K (Lf i) ≤ hi)))) = true := z.2
    rw [decide_eq_true h5.1, decide_eq_true h5.2, decide_eq_true h6] at h7
    cases h7
  · intro z
    obtain ⟨i, h4, h5⟩ := h.2.2.1 n z.1
    subst h5
    rw [z.1, Bool.true_and, Bool.not_eq_true', Bool.eq_false_iff]
    intro h6
    simp only [Bool.and_eq_true, decide_eq_true_iff] at h6
    have h7 := (h1.2.2 i h4).mpr h6.2
    exact z.2 i h7.1 h7.2 rfl

def LSt (s : State) (b : Nat) (G : va_G) (aX : Nat → Nat) (CX : Nat → ClassId) (aM : Nat → Nat) (CM : Nat → ClassId) (oo : Nat) (Co : ClassId) (t : Nat) (H : Heap) (locs : List Loc) (ls : Array Slot) : Prop :=
  ∃ (K D : Nat → Int64) (T : Nat → Bool) (w O : Nat → Int32) (f : Nat → Int64) (th : Int32) (Lf : Nat → Nat) (sz : Nat), ft_iv T K w Lf sz ∧ (∀ i, i < sz → O i = nI (Lf i) ∧ Lf i < 200) ∧
    va_P G vwCl (wXo aX CX K D (cwt T w) O (nI sz) oo Co f) H ∧ va_P G vwCl (wM aM CM T K D w th) H ∧ va_S (fun q => s.heap.size ≤ q) s.heap H locs ∧ lv_has ls 8 [(4, .int (nI (7 * t))), (0, .ref (b)), (1, .ref (aX 0)), (2, .ref (aM 0)), (3, .ref (oo))]

set_option maxHeartbeats 4000000 in
theorem st_drop {p : Program} {l : Launch} {e : Env} {s : State} {m : MethodId} {below : List Frame} {meth : Method} {c : Code} {b L : Nat} {xs : Nat → Int32} {G : va_G} {aX : Nat → Nat} {CX : Nat → ClassId} {aM : Nat → Nat} {CM : Nat → ClassId} {oo : Nat} {Co : ClassId} (h : LC p s m meth c b L xs G aX CX aM CM oo Co) {Q : State → Prop} {cells slots : Nat} (hcs : cells + 1 ≤ 1047) (hss : slots + 6 ≤ 9875) {t : Nat} (ht : 7 * t + 7 ≤ L) (hL : ∀ e : Env, l.admits e → e.platform.stackTraces = false) (cont : ∀ (H : Heap) (locs : List Loc) (ls : Array Slot), LSt s b G aX CX aM CM oo Co t H locs ls → W p l e room_1 s m #[Value.ref b] below meth c H locs (cells + 1) (slots + 6) Q (F0 m 1185 ls [])) : ∀ (H : Heap) (locs : List Loc) (ls : Array Slot), LSt s b G aX CX aM CM oo Co t H locs ls → W p l e room_1 s m #[Value.ref b] below meth c H locs cells slots Q (F0 m 274 ls []) := by
  intro H locs ls ⟨K, D, T, w, O, f, th, Lf, sz, hi, hO, hP, hPM, hS, hl⟩
  have hs := ft_iv_le hi
  have hap := h.2.2
  have hW : ∀ n, T n = true → cwt T w n = w n := fun n hn => cwt_t hn
  rcases sp_T T (xs (7 * t + 1)) with ⟨j, hj, hx, hT⟩ | hN
  · obtain ⟨q, hq, hLq, hfb, _⟩ := ft_rank hi hT
    have hw := lw_drop_ok l G aX CX oo Co hap.1 K D (cwt T w) O (nI sz) f (cx_drop l G aX CX (dX5 hap.1.1 CX) K D (cwt T w) O Lf sz hs hO hj (cwt_pos hi hT) (by rw [hfb]; exact hq))
    have hm := cm_drop l G aM CM (dM5 hap.2.1 CM) T K D w th hj hT
    have hz := zr_cwt (w := w) (Nat.le_succ q) (rem1 (T := T) (K := K) (w := w) (sz := sz) hLq)
    have h1 : q + 1 - q = 1 := by omega
    rw [show q.succ = q + 1 from rfl, h1] at hz
    rw [hfb, hz] at hw
    exact op_drop h hcs hss ht (by decide) hx hw hm (fun _ => by rw [pk_uLs, cwt_t hT]) (fun H locs ls hP hPM hS hl => cont H locs ls ⟨K, D, _, w, _, _, _, ft_rm Lf q (q + 1), sz - 1, rem_iv hi hq hLq, fun i h3 => hO_rm hO (Nat.le_succ q) hq i (by omega), hP, hPM, hS, hl⟩) H locs ls hP hPM hS hl
  · have hw := lw_drop_NS l G aX CX oo Co hap.1 K D (cwt T w) O (nI sz) f (bx_drop l hL G aX CX K D (cwt T w) O (nI sz) (is_no l G aX CX K D O (nI sz) hN))
    have hm := cm_drop_no l G aM CM (dM5 hap.2.1 CM) T K D w th (no_no l G aM CM (dM5 hap.2.1 CM) K D th hN)
    exact op_drop h hcs hss ht (by decide) rfl hw hm (fun z => absurd z (by decide)) (fun H locs ls hP hPM hS hl => cont H locs ls ⟨K, D, T, w, O, _, _, Lf, sz, hi, hO, hP, hPM, hS, hl⟩) H locs ls hP hPM hS hl
set_option maxHeartbeats 4000000 in
theorem st_rank {p : Program} {l : Launch} {e : Env} {s : State} {m : MethodId} {below : List Frame} {meth : Method} {c : Code} {b L : Nat} {xs : Nat → Int32} {G : va_G} {aX : Nat → Nat} {CX : Nat → ClassId} {aM : Nat → Nat} {CM : Nat → ClassId} {oo : Nat} {Co : ClassId} (h : LC p s m meth c b L xs G aX CX aM CM oo Co) {Q : State → Prop} {cells slots : Nat} (hcs : cells + 1 ≤ 1047) (hss : slots + 6 ≤ 9875) {t : Nat} (ht : 7 * t + 7 ≤ L) (hL : ∀ e : Env, l.admits e → e.platform.stackTraces = false) (cont : ∀ (H : Heap) (locs : List Loc) (ls : Array Slot), LSt s b G aX CX aM CM oo Co t H locs ls → W p l e room_1 s m #[Value.ref b] below meth c H locs (cells + 1) (slots + 6) Q (F0 m 1185 ls [])) : ∀ (H : Heap) (locs : List Loc) (ls : Array Slot), LSt s b G aX CX aM CM oo Co t H locs ls → W p l e room_1 s m #[Value.ref b] below meth c H locs cells slots Q (F0 m 540 ls []) := by
  intro H locs ls ⟨K, D, T, w, O, f, th, Lf, sz, hi, hO, hP, hPM, hS, hl⟩
  have hs := ft_iv_le hi
  have hap := h.2.2
  have hW : ∀ n, T n = true → cwt T w n = w n := fun n hn => cwt_t hn
  rcases sp_T T (xs (7 * t + 1)) with ⟨j, hj, hx, hT⟩ | hN
  · obtain ⟨q, hq, hLq, hfb, hcnt⟩ := ft_rank hi hT
    have hw := lw_rank_ok l G aX CX oo Co hap.1 K D (cwt T w) O (nI sz) f (cx_rank l G aX CX K D (cwt T w) O Lf sz hs hO hj (cwt_pos hi hT))
    have hm := cm_rank l G aM CM (dM5 hap.2.1 CM) T K D w th hj hT
    rw [hfb] at hw
    rw [hcnt] at hm
    exact op_rank h hcs hss ht (by decide) hx hw hm (fun _ => by rw [pk_uLs]) (fun H locs ls hP hPM hS hl => cont H locs ls ⟨K, D, T, w, O, _, _, Lf, sz, hi, hO, hP, hPM, hS, hl⟩) H locs ls hP hPM hS hl
  · have hw := lw_rank_NS l G aX CX oo Co hap.1 K D (cwt T w) O (nI sz) f (bx_rank l hL G aX CX K D (cwt T w) O (nI sz) (is_no l G aX CX K D O (nI sz) hN))
    have hm := cm_rank_no l G aM CM (dM5 hap.2.1 CM) T K D w th (no_no l G aM CM (dM5 hap.2.1 CM) K D th hN)
    exact op_rank h hcs hss ht (by decide) rfl hw hm (fun z => absurd z (by decide)) (fun H locs ls hP hPM hS hl => cont H locs ls ⟨K, D, T, w, O, _, _, Lf, sz, hi, hO, hP, hPM, hS, hl⟩) H locs ls hP hPM hS hl
set_option maxHeartbeats 4000000 in
theorem st_ahead {p : Program} {l : Launch} {e : Env} {s : State} {m : MethodId} {below : List Frame} {meth : Method} {c : Code} {b L : Nat} {xs : Nat → Int32} {G : va_G} {aX : Nat → Nat} {CX : Nat → ClassId} {aM : Nat → Nat} {CM : Nat → ClassId} {oo : Nat} {Co : ClassId} (h : LC p s m meth c b L xs G aX CX aM CM oo Co) {Q : State → Prop} {cells slots : Nat} (hcs : cells + 1 ≤ 1047) (hss : slots + 6 ≤ 9875) {t : Nat} (ht : 7 * t + 7 ≤ L) (hL : ∀ e : Env, l.admits e → e.platform.stackTraces = false) (cont : ∀ (H : Heap) (locs : List Loc) (ls : Array Slot), LSt s b G aX CX aM CM oo Co t H locs ls → W p l e room_1 s m #[Value.ref b] below meth c H locs (cells + 1) (slots + 6) Q (F0 m 1185 ls [])) : ∀ (H : Heap) (locs : List Loc) (ls : Array Slot), LSt s b G aX CX aM CM oo Co t H locs ls → W p l e room_1 s m #[Value.ref b] below meth c H locs cells slots Q (F0 m 860 ls []) := by
  intro H locs ls ⟨K, D, T, w, O, f, th, Lf, sz, hi, hO, hP, hPM, hS, hl⟩
  have hs := ft_iv_le hi
  have hap := h.2.2
  have hW : ∀ n, T n = true → cwt T w n = w n := fun n hn => cwt_t hn
  rcases sp_T T (xs (7 * t + 1)) with ⟨j, hj, hx, hT⟩ | hN
  · have hw := lw_ahead_ok l G aX CX oo Co hap.1 K D (cwt T w) O (nI sz) f (cx_ahead l G aX CX K D (cwt T w) O Lf sz hs hO hj (cwt_pos hi hT))
    have hm := cm_ahead l G aM CM (dM5 hap.2.1 CM) T K D w th hj hT
    rw [ft_W_row hi hW, ft_S_row hi hW] at hw
    have hle := ft_lead T K (fun k => (w k).toInt64) (K j) 200
    exact op_ahead h hcs hss ht (by decide) hx hw hm (fun _ => by rw [pk_uLs]; exact hle.symm) (fun H locs ls hP hPM hS hl => cont H locs ls ⟨K, D, T, w, O, _, _, Lf, sz, hi, hO, hP, hPM, hS, hl⟩) H locs ls hP hPM hS hl
  · have hw := lw_ahead_NS l G aX CX oo Co hap.1 K D (cwt T w) O (nI sz) f (bx_ahead l hL G aX CX K D (cwt T w) O (nI sz) (is_no l G aX CX K D O (nI sz) hN))
    have hm := cm_ahead_no l G aM CM (dM5 hap.2.1 CM) T K D w th (no_no l G aM CM (dM5 hap.2.1 CM) K D th hN)
    exact op_ahead h hcs hss ht (by decide) rfl hw hm (fun z => absurd z (by decide)) (fun H locs ls hP hPM hS hl => cont H locs ls ⟨K, D, T, w, O, _, _, Lf, sz, hi, hO, hP, hPM, hS, hl⟩) H locs ls hP hPM hS hl
set_option maxHeartbeats 4000000 in
theorem st_told {p : Program} {l : Launch} {e : Env} {s : State} {m : MethodId} {below : List Frame} {meth : Method} {c : Code} {b L : Nat} {xs : Nat → Int32} {G : va_G} {aX : Nat → Nat} {CX : Nat → ClassId} {aM : Nat → Nat} {CM : Nat → ClassId} {oo : Nat} {Co : ClassId} (h : LC p s m meth c b L xs G aX CX aM CM oo Co) {Q : State → Prop} {cells slots : Nat} (hcs : cells + 1 ≤ 1047) (hss : slots + 6 ≤ 9875) {t : Nat} (ht : 7 * t + 7 ≤ L) (hL : ∀ e : Env, l.admits e → e.platform.stackTraces = false) (cont : ∀ (H : Heap) (locs : List Loc) (ls : Array Slot), LSt s b G aX CX aM CM oo Co t H locs ls → W p l e room_1 s m #[Value.ref b] below meth c H locs (cells + 1) (slots + 6) Q (F0 m 1185 ls [])) : ∀ (H : Heap) (locs : List Loc) (ls : Array Slot), LSt s b G aX CX aM CM oo Co t H locs ls → W p l e room_1 s m #[Value.ref b] below meth c H locs cells slots Q (F0 m 417 ls []) := by
  intro H locs ls ⟨K, D, T, w, O, f, th, Lf, sz, hi, hO, hP, hPM, hS, hl⟩
  have hs := ft_iv_le hi
  have hap := h.2.2
  have hW : ∀ n, T n = true → cwt T w n = w n := fun n hn => cwt_t hn
  rcases sp_T T (xs (7 * t + 1)) with ⟨j, hj, hx, hT⟩ | hN
  · rcases x012 (xs (7 * t + 2)) with hy | hy | hy | ⟨_, _, _, hy⟩
    · have hw := lw_told_ok l G aX CX oo Co hap.1 K D (cwt T w) O (nI sz) f (cx_told_k l G aX CX K D (cwt T w) O Lf sz hs hO hj (cwt_pos hi hT))
      have hm := cm_told_k l G aM CM (dM5 hap.2.1 CM) T K D w th hj hT
      exact op_told h hcs hss ht (by decide) hx hy hw hm (fun _ => by rw [pk_uLs]) (fun H locs ls hP hPM hS hl => cont H locs ls ⟨K, D, T, w, O, _, _, Lf, sz, hi, hO, hP, hPM, hS, hl⟩) H locs ls hP hPM hS hl
    · have hw := lw_told_ok l G aX CX oo Co hap.1 K D (cwt T w) O (nI sz) f (cx_told_d l G aX CX K D (cwt T w) O Lf sz hs hO hj (cwt_pos hi hT))
      have hm := cm_told_d l G aM CM (dM5 hap.2.1 CM) T K D w th hj hT
      exact op_told h hcs hss ht (by decide) hx hy hw hm (fun _ => by rw [pk_uLs]) (fun H locs ls hP hPM hS hl => cont H locs ls ⟨K, D, T, w, O, _, _, Lf, sz, hi, hO, hP, hPM, hS, hl⟩) H locs ls hP hPM hS hl
    · have hw := lw_told_ok l G aX CX oo Co hap.1 K D (cwt T w) O (nI sz) f (cx_told_w l G aX CX K D (cwt T w) O Lf sz hs hO hj (cwt_pos hi hT))
      have hm := cm_told_w l G aM CM (dM5 hap.2.1 CM) T K D w th hj hT
      exact op_told h hcs hss ht (by decide) hx hy hw hm (fun _ => by rw [pk_uLs, cwt_t hT]) (fun H locs ls hP hPM hS hl => cont H locs ls ⟨K, D, T, w, O, _, _, Lf, sz, hi, hO, hP, hPM, hS, hl⟩) H locs ls hP hPM hS hl
    · have hw := lw_told_IA l G aX CX oo Co hap.1 K D (cwt T w) O (nI sz) f (bx_told_what l hL G aX CX K D (cwt T w) O (nI sz) hj (cwt_pos hi hT) hy)
      have hm := cm_told_what l G aM CM (dM5 hap.2.1 CM) T K D w th hj hT (y := xs (7 * t + 2)) (by
        rw [Int32.lt_iff_toInt_lt, Int32.lt_iff_toInt_lt]
        exact hy)
      exact op_told h hcs hss ht (by decide) hx rfl hw hm (fun z => absurd z (by decide)) (fun H locs ls hP hPM hS hl => cont H locs ls ⟨K, D, T, w, O, _, _, Lf, sz, hi, hO, hP, hPM, hS, hl⟩) H locs ls hP hPM hS hl
  · have hw := lw_told_NS l G aX CX oo Co hap.1 K D (cwt T w) O (nI sz) f (bx_told l hL G aX CX K D (cwt T w) O (nI sz) (is_no l G aX CX K D O (nI sz) hN) (y := xs (7 * t + 2)))
    have hm := cm_told_no l G aM CM (dM5 hap.2.1 CM) T K D w th (no_no l G aM CM (dM5 hap.2.1 CM) K D th hN) (y := xs (7 * t + 2))
    exact op_told h hcs hss ht (by decide) rfl rfl hw hm (fun z => absurd z (by decide)) (fun H locs ls hP hPM hS hl => cont H locs ls ⟨K, D, T, w, O, _, _, Lf, sz, hi, hO, hP, hPM, hS, hl⟩) H locs ls hP hPM hS hl
set_option maxHeartbeats 4000000 in
theorem st_at {p : Program} {l : Launch} {e : Env} {s : State} {m : MethodId} {below : List Frame} {meth : Method} {c : Code} {b L : Nat} {xs : Nat → Int32} {G : va_G} {aX : Nat → Nat} {CX : Nat → ClassId} {aM : Nat → Nat} {CM : Nat → ClassId} {oo : Nat} {Co : ClassId} (h : LC p s m meth c b L xs G aX CX aM CM oo Co) {Q : State → Prop} {cells slots : Nat} (hcs : cells + 1 ≤ 1047) (hss : slots + 6 ≤ 9875) {t : Nat} (ht : 7 * t + 7 ≤ L) (hL : ∀ e : Env, l.admits e → e.platform.stackTraces = false) (cont : ∀ (H : Heap) (locs : List Loc) (ls : Array Slot), LSt s b G aX CX aM CM oo Co t H locs ls → W p l e room_1 s m #[Value.ref b] below meth c H locs (cells + 1) (slots + 6) Q (F0 m 1185 ls [])) : ∀ (H : Heap) (locs : List Loc) (ls : Array Slot), LSt s b G aX CX aM CM oo Co t H locs ls → W p l e room_1 s m #[Value.ref b] below meth c H locs cells slots Q (F0 m 484 ls []) := by
  intro H locs ls ⟨K, D, T, w, O, f, th, Lf, sz, hi, hO, hP, hPM, hS, hl⟩
  have hs := ft_iv_le hi
  have hap := h.2.2
  have hW : ∀ n, T n = true → cwt T w n = w n := fun n hn => cwt_t hn
  rcases pk_ix (xs (7 * t + 1)) (n := sz) (by omega) with hx | hx | ⟨k, hk, hx⟩
  · have hw := lw_at_NS l G aX CX oo Co hap.1 K D (cwt T w) O (nI sz) f (bx_at_1 l hL G aX CX K D (cwt T w) O (nI sz) hx)
    have hm := cm_at l G aM CM (dM5 hap.2.1 CM) T K D w th (x := xs (7 * t + 1))
    rw [ft_at_out hi (fun k hk z => by rw [z] at hx; exact nI_pos (by omega) hx), if_neg (Nat.lt_irrefl 200), if_neg (Nat.lt_irrefl 200)] at hm
    exact op_at h hcs hss ht (by decide) rfl hw hm (fun z => absurd z (by decide)) (fun H locs ls hP hPM hS hl => cont H locs ls ⟨K, D, T, w, O, _, _, Lf, sz, hi, hO, hP, hPM, hS, hl⟩) H locs ls hP hPM hS hl
  · have h0 : ¬ xs (7 * t + 1) < 0 := fun z => by
      rw [Int32.lt_iff_toInt_lt] at z
      rw [Int32.le_iff_toInt_le, nI_toInt (by omega)] at hx
      have : (0 : Int32).toInt = 0 := rfl
      omega
    have hw := lw_at_NS l G aX CX oo Co hap.1 K D (cwt T w) O (nI sz) f (bx_at_2 l hL G aX CX K D (cwt T w) O (nI sz) h0 hx)
    have hm := cm_at l G aM CM (dM5 hap.2.1 CM) T K D w th (x := xs (7 * t + 1))
    rw [ft_at_out hi (fun k hk z => by rw [z] at hx; exact nI_ge hk (by omega) hx), if_neg (Nat.lt_irrefl 200), if_neg (Nat.lt_irrefl 200)] at hm
    exact op_at h hcs hss ht (by decide) rfl hw hm (fun z => absurd z (by decide)) (fun H locs ls hP hPM hS hl => cont H locs ls ⟨K, D, T, w, O, _, _, Lf, sz, hi, hO, hP, hPM, hS, hl⟩) H locs ls hP hPM hS hl
  · have hw := lw_at_ok l G aX CX oo Co hap.1 K D (cwt T w) O (nI sz) f (cx_at l G aX CX K D (cwt T w) O Lf sz hs hO hk)
    have hm := cm_at l G aM CM (dM5 hap.2.1 CM) T K D w th (x := nI k)
    rw [ft_at_in hi hk, if_pos (ft_iv_lt hi hk), if_pos (ft_iv_lt hi hk)] at hm
    exact op_at h hcs hss ht (by decide) hx hw hm (fun _ => by rw [pk_uLs]) (fun H locs ls hP hPM hS hl => cont H locs ls ⟨K, D, T, w, O, _, _, Lf, sz, hi, hO, hP, hPM, hS, hl⟩) H locs ls hP hPM hS hl
set_option maxHeartbeats 4000000 in
theorem st_slide {p : Program} {l : Launch} {e : Env} {s : State} {m : MethodId} {below : List Frame} {meth : Method} {c : Code} {b L : Nat} {xs : Nat → Int32} {G : va_G} {aX : Nat → Nat} {CX : Nat → ClassId} {aM : Nat → Nat} {CM : Nat → ClassId} {oo : Nat} {Co : ClassId} (h : LC p s m meth c b L xs G aX CX aM CM oo Co) {Q : State → Prop} {cells slots : Nat} (hcs : cells + 1 ≤ 1047) (hss : slots + 6 ≤ 9875) {t : Nat} (ht : 7 * t + 7 ≤ L) (hL : ∀ e : Env, l.admits e → e.platform.stackTraces = false) (cont : ∀ (H : Heap) (locs : List Loc) (ls : Array Slot), LSt s b G aX CX aM CM oo Co t H locs ls → W p l e room_1 s m #[Value.ref b] below meth c H locs (cells + 1) (slots + 6) Q (F0 m 1185 ls [])) : ∀ (H : Heap) (locs : List Loc) (ls : Array Slot), LSt s b G aX CX aM CM oo Co t H locs ls → W p l e room_1 s m #[Value.ref b] below meth c H locs cells slots Q (F0 m 330 ls []) := by
  intro H locs ls ⟨K, D, T, w, O, f, th, Lf, sz, hi, hO, hP, hPM, hS, hl⟩
  have hs := ft_iv_le hi
  have hap := h.2.2
  have hW : ∀ n, T n = true → cwt T w n = w n := fun n hn => cwt_t hn
  obtain ⟨y, hy⟩ : ∃ y, ft_lg (xs (7 * t + 1)) (xs (7 * t + 2)) = y := ⟨_, rfl⟩
  rcases Nat.eq_zero_or_pos sz with h0 | h0
  · subst h0
    have hw := lw_slide_NS l G aX CX oo Co hap.1 K D (cwt T w) O (nI 0) f (bx_slide l hL G aX CX K D (cwt T w) O (y := y))
    have hm := cm_slide_none l G aM CM (dM5 hap.2.1 CM) T K D w th (y := y) (ft_iv_cnt hi)
    exact op_slide h hcs hss ht (by decide) hy hw hm (fun z => absurd z (by decide)) (fun H locs ls hP hPM hS hl => cont H locs ls ⟨K, D, T, w, O, _, _, Lf, 0, hi, hO, hP, hPM, hS, hl⟩) H locs ls hP hPM hS hl
  · have hc : 0 < ft_cnt T 200 := by rw [ft_iv_cnt hi]; exact h0
    by_cases hb : y < (-2199023255552 : Int64) - K (Lf 0) ∨ (2199023255552 : Int64) - K (Lf (sz - 1)) < y
    · have hw := lw_slide_IA l G aX CX oo Co hap.1 K D (cwt T w) O (nI sz) f (bx_slide_2 l hL G aX CX K D (cwt T w) O Lf sz hs hO h0 hb)
      have hm := cm_slide_bad l G aM CM (dM5 hap.2.1 CM) T K D w th (y := y) hc (ft_slide_out hi h0 hb)
      exact op_slide h hcs hss ht (by decide) hy hw hm (fun z => absurd z (by decide)) (fun H locs ls hP hPM hS hl => cont H locs ls ⟨K, D, T, w, O, _, _, Lf, sz, hi, hO, hP, hPM, hS, hl⟩) H locs ls hP hPM hS hl
    · have h1 : ¬ y < (-2199023255552 : Int64) - K (Lf 0) := fun z => hb (Or.inl z)
      have h2 : ¬ (2199023255552 : Int64) - K (Lf (sz - 1)) < y := fun z => hb (Or.inr z)
      obtain ⟨h3, h4⟩ := ft_slide_in hi h0 h1 h2
      have hw := lw_slide_ok l G aX CX oo Co hap.1 K D (cwt T w) O (nI sz) f (cx_slide l G aX CX (dX5 hap.1.1 CX) K D (cwt T w) O Lf sz hs hO h0 h1 h2)
      have hm := cm_slide l G aM CM (dM5 hap.2.1 CM) T K D w th (y := y) hc h4
      rw [ft_sl_eq hi] at hw
      rw [ft_ks_200 (fun n hn => (hi.1 n hn).1), ft_slide_least hi h0 h3] at hm
      exact op_slide h hcs hss ht (by decide) hy hw hm (fun _ => by rw [pk_uLs]; exact if_pos (hi.2.1 0 h0)) (fun H locs ls hP hPM hS hl => cont H locs ls ⟨_, D, T, w, O, _, _, Lf, sz, ft_iv_sld hi h3, hO, hP, hPM, hS, hl⟩) H locs ls hP hPM hS hl
set_option maxHeartbeats 4000000 in
theorem st_earliest {p : Program} {l : Launch} {e : Env} {s : State} {m : MethodId} {below : List Frame} {meth : Method} {c : Code} {b L : Nat} {xs : Nat → Int32} {G : va_G} {aX : Nat → Nat} {CX : Nat → ClassId} {aM : Nat → Nat} {CM : Nat → ClassId} {oo : Nat} {Co : ClassId} (h : LC p s m meth c b L xs G aX CX aM CM oo Co) {Q : State → Prop} {cells slots : Nat} (hcs : cells + 1 ≤ 1047) (hss : slots + 6 ≤ 9875) {t : Nat} (ht : 7 * t + 7 ≤ L) (hL : ∀ e : Env, l.admits e → e.platform.stackTraces = false) (cont : ∀ (H : Heap) (locs : List Loc) (ls : Array Slot), LSt s b G aX CX aM CM oo Co t H locs ls → W p l e room_1 s m #[Value.ref b] below meth c H locs (cells + 1) (slots + 6) Q (F0 m 1185 ls [])) : ∀ (H : Heap) (locs : List Loc) (ls : Array Slot), LSt s b G aX CX aM CM oo Co t H locs ls → W p l e room_1 s m #[Value.ref b] below meth c H locs cells slots Q (F0 m 596 ls []) := by
  intro H locs ls ⟨K, D, T, w, O, f, th, Lf, sz, hi, hO, hP, hPM, hS, hl⟩
  have hs := ft_iv_le hi
  have hap := h.2.2
  have hW : ∀ n, T n = true → cwt T w n = w n := fun n hn => cwt_t hn
  obtain ⟨y, hy⟩ : ∃ y, ft_lg (xs (7 * t + 1)) (xs (7 * t + 2)) = y := ⟨_, rfl⟩
  rcases Nat.eq_zero_or_pos (ft_fb (fun i => ft_sb K y 200 (Lf i)) sz 0) with h0 | h0
  · have hw := lw_earliest_NS l G aX CX oo Co hap.1 K D (cwt T w) O (nI sz) f (bx_earliest l hL G aX CX K D (cwt T w) O Lf sz hs hO (Nat.le_of_eq h0))
    have hm := cm_earliest l G aM CM (dM5 hap.2.1 CM) T K D w th y
    rw [(st_none hi (-9223372036854775808) y (lo_zero hi) h0 (Nat.le_refl 0)).2, or_none, ot_none] at hm
    exact op_earliest h hcs hss ht (by decide) hy hw hm (fun z => absurd z (by decide)) (fun H locs ls hP hPM hS hl => cont H locs ls ⟨K, D, T, w, O, _, _, Lf, sz, hi, hO, hP, hPM, hS, hl⟩) H locs ls hP hPM hS hl
  · have hw := lw_earliest_ok l G aX CX oo Co hap.1 K D (cwt T w) O (nI sz) f (cx_earliest l G aX CX K D (cwt T w) O Lf sz hs hO y h0)
    have hm := cm_earliest l G aM CM (dM5 hap.2.1 CM) T K D w th y
    rw [st_some hi (-9223372036854775808) y (lo_zero hi) rfl h0, or_some, ot_some] at hm
    exact op_earliest h hcs hss ht (by decide) hy hw hm (fun _ => by rw [pk_uLs]) (fun H locs ls hP hPM hS hl => cont H locs ls ⟨K, D, T, w, O, _, _, Lf, sz, hi, hO, hP, hPM, hS, hl⟩) H locs ls hP hPM hS hl
set_option maxHeartbeats 4000000 in
theorem st_between {p : Program} {l : Launch} {e : Env} {s : State} {m : MethodId} {below : List Frame} {meth : Method} {c : Code} {b L : Nat} {xs : Nat → Int32} {G : va_G} {aX : Nat → Nat} {CX : Nat → ClassId} {aM : Nat → Nat} {CM : Nat → ClassId} {oo : Nat} {Co : ClassId} (h : LC p s m meth c b L xs G aX CX aM CM oo Co) {Q : State → Prop} {cells slots : Nat} (hcs : cells + 1 ≤ 1047) (hss : slots + 6 ≤ 9875) {t : Nat} (ht : 7 * t + 7 ≤ L) (hL : ∀ e : Env, l.admits e → e.platform.stackTraces = false) (cont : ∀ (H : Heap) (locs : List Loc) (ls : Array Slot), LSt s b G aX CX aM CM oo Co t H locs ls → W p l e room_1 s m #[Value.ref b] below meth c H locs (cells + 1) (slots + 6) Q (F0 m 1185 ls [])) : ∀ (H : Heap) (locs : List Loc) (ls : Array Slot), LSt s b G aX CX aM CM oo Co t H locs ls → W p l e room_1 s m #[Value.ref b] below meth c H locs cells slots Q (F0 m 684 ls []) := by
  intro H locs ls ⟨K, D, T, w, O, f, th, Lf, sz, hi, hO, hP, hPM, hS, hl⟩
  have hs := ft_iv_le hi
  have hap := h.2.2
  have hW : ∀ n, T n = true → cwt T w n = w n := fun n hn => cwt_t hn
  obtain ⟨y, hy⟩ : ∃ y, ft_lg (xs (7 * t + 1)) (xs (7 * t + 2)) = y := ⟨_, rfl⟩
  obtain ⟨z, hz⟩ : ∃ z, ft_lg (xs (7 * t + 3)) (xs (7 * t + 4)) = z := ⟨_, rfl⟩
  rcases Nat.lt_or_ge (ft_fb (fun i => ft_sb K y 0 (Lf i)) sz 0) (ft_fb (fun i => ft_sb K z 200 (Lf i)) sz 0) with h0 | h0
  · have hw := lw_between_ok l G aX CX oo Co hap.1 K D (cwt T w) O (nI sz) f (cx_between l G aX CX K D (cwt T w) O Lf sz hs hO y z h0)
    have hm := cm_between l G aM CM (dM5 hap.2.1 CM) T K D w th y z
    rw [st_some hi y z rfl rfl h0, or_some, ot_some] at hm
    exact op_between h hcs hss ht (by decide) hy hz hw hm (fun _ => by rw [pk_uLs]) (fun H locs ls hP hPM hS hl => cont H locs ls ⟨K, D, T, w, O, _, _, Lf, sz, hi, hO, hP, hPM, hS, hl⟩) H locs ls hP hPM hS hl
  · have hw := lw_between_NS l G aX CX oo Co hap.1 K D (cwt T w) O (nI sz) f (bx_between l hL G aX CX K D (cwt T w) O Lf sz hs hO h0)
    have hm := cm_between l G aM CM (dM5 hap.2.1 CM) T K D w th y z
    rw [(st_none hi y z rfl rfl h0).2, or_none, ot_none] at hm
    exact op_between h hcs hss ht (by decide) hy hz hw hm (fun z => absurd z (by decide)) (fun H locs ls hP hPM hS hl => cont H locs ls ⟨K, D, T, w, O, _, _, Lf, sz, hi, hO, hP, hPM, hS, hl⟩) H locs ls hP hPM hS hl
set_option maxHeartbeats 4000000 in
theorem st_pick {p : Program} {l : Launch} {e : Env} {s : State} {m : MethodId} {below : List Frame} {meth : Method} {c : Code} {b L : Nat} {xs : Nat → Int32} {G : va_G} {aX : Nat → Nat} {CX : Nat → ClassId} {aM : Nat → Nat} {CM : Nat → ClassId} {oo : Nat} {Co : ClassId} (h : LC p s m meth c b L xs G aX CX aM CM oo Co) {Q : State → Prop} {cells slots : Nat} (hcs : cells + 1 ≤ 1047) (hss : slots + 6 ≤ 9875) {t : Nat} (ht : 7 * t + 7 ≤ L) (hL : ∀ e : Env, l.admits e → e.platform.stackTraces = false) (cont : ∀ (H : Heap) (locs : List Loc) (ls : Array Slot), LSt s b G aX CX aM CM oo Co t H locs ls → W p l e room_1 s m #[Value.ref b] below meth c H locs (cells + 1) (slots + 6) Q (F0 m 1185 ls [])) : ∀ (H : Heap) (locs : List Loc) (ls : Array Slot), LSt s b G aX CX aM CM oo Co t H locs ls → W p l e room_1 s m #[Value.ref b] below meth c H locs cells slots Q (F0 m 816 ls []) := by
  intro H locs ls ⟨K, D, T, w, O, f, th, Lf, sz, hi, hO, hP, hPM, hS, hl⟩
  have hs := ft_iv_le hi
  have hap := h.2.2
  have hW : ∀ n, T n = true → cwt T w n = w n := fun n hn => cwt_t hn
  rcases Nat.eq_zero_or_pos (ft_fb (fun i => decide (K (Lf i) * ft_W64 T w ≤ ft_S64 T K w)) sz 0) with h0 | h0
  · have hw := lw_pick_NS l G aX CX oo Co hap.1 K D (cwt T w) O (nI sz) f (bx_pick l hL G aX CX K D (cwt T w) O Lf sz hs hO (by rw [ft_W_row hi hW, ft_S_row hi hW]; exact Nat.le_of_eq h0))
    have hm := cm_pick l G aM CM (dM5 hap.2.1 CM) T K D w th
    rw [pk_none hi h0 (Nat.le_refl 0), or_none, ot_none] at hm
    exact op_pick h hcs hss ht (by decide)  hw hm (fun z => absurd z (by decide)) (fun H locs ls hP hPM hS hl => cont H locs ls ⟨K, D, T, w, O, _, _, Lf, sz, hi, hO, hP, hPM, hS, hl⟩) H locs ls hP hPM hS hl
  · have hw := lw_pick_ok l G aX CX oo Co hap.1 K D (cwt T w) O (nI sz) f (cx_pick l G aX CX K D (cwt T w) O Lf sz hs hO (by rw [ft_W_row hi hW, ft_S_row hi hW]; exact h0))
    have hm := cm_pick l G aM CM (dM5 hap.2.1 CM) T K D w th
    rw [ft_W_row hi hW, ft_S_row hi hW] at hw
    rw [pk_some hi rfl h0, or_some, ot_some] at hm
    exact op_pick h hcs hss ht (by decide)  hw hm (fun _ => by rw [pk_uLs]) (fun H locs ls hP hPM hS hl => cont H locs ls ⟨K, D, T, w, O, _, _, Lf, sz, hi, hO, hP, hPM, hS, hl⟩) H locs ls hP hPM hS hl
set_option maxHeartbeats 4000000 in
theorem st_half {p : Program} {l : Launch} {e : Env} {s : State} {m : MethodId} {below : List Frame} {meth : Method} {c : Code} {b L : Nat} {xs : Nat → Int32} {G : va_G} {aX : Nat → Nat} {CX : Nat → ClassId} {aM : Nat → Nat} {CM : Nat → ClassId} {oo : Nat} {Co : ClassId} (h : LC p s m meth c b L xs G aX CX aM CM oo Co) {Q : State → Prop} {cells slots : Nat} (hcs : cells + 1 ≤ 1047) (hss : slots + 6 ≤ 9875) {t : Nat} (ht : 7 * t + 7 ≤ L) (hL : ∀ e : Env, l.admits e → e.platform.stackTraces = false) (cont : ∀ (H : Heap) (locs : List Loc) (ls : Array Slot), LSt s b G aX CX aM CM oo Co t H locs ls → W p l e room_1 s m #[Value.ref b] below meth c H locs (cells + 1) (slots + 6) Q (F0 m 1185 ls [])) : ∀ (H : Heap) (locs : List Loc) (ls : Array Slot), LSt s b G aX CX aM CM oo Co t H locs ls → W p l e room_1 s m #[Value.ref b] below meth c H locs cells slots Q (F0 m 972 ls []) := by
  intro H locs ls ⟨K, D, T, w, O, f, th, Lf, sz, hi, hO, hP, hPM, hS, hl⟩
  have hs := ft_iv_le hi
  have hap := h.2.2
  have hW : ∀ n, T n = true → cwt T w n = w n := fun n hn => cwt_t hn
  rcases Nat.eq_zero_or_pos sz with h0 | h0
  · subst h0
    have hw := lw_half_NS l G aX CX oo Co hap.1 K D (cwt T w) O (nI 0) f (bx_half l hL G aX CX K D (cwt T w) O)
    have hm := cm_half l G aM CM (dM5 hap.2.1 CM) T K D w th
    rw [hf_none hi, or_none, ot_none] at hm
    exact op_half h hcs hss ht (by decide)  hw hm (fun z => absurd z (by decide)) (fun H locs ls hP hPM hS hl => cont H locs ls ⟨K, D, T, w, O, _, _, Lf, 0, hi, hO, hP, hPM, hS, hl⟩) H locs ls hP hPM hS hl
  · have hw := lw_half_ok l G aX CX oo Co hap.1 K D (cwt T w) O (nI sz) f (cx_half l G aX CX K D (cwt T w) O Lf sz hs hO h0)
    have hm := cm_half l G aM CM (dM5 hap.2.1 CM) T K D w th
    rw [(ft_half hi hW h0).2, or_some, ot_some] at hm
    exact op_half h hcs hss ht (by decide)  hw hm (fun _ => by rw [pk_uLs]) (fun H locs ls hP hPM hS hl => cont H locs ls ⟨K, D, T, w, O, _, _, Lf, sz, hi, hO, hP, hPM, hS, hl⟩) H locs ls hP hPM hS hl
set_option maxHeartbeats 4000000 in
theorem st_nearest {p : Program} {l : Launch} {e : Env} {s : State} {m : MethodId} {below : List Frame} {meth : Method} {c : Code} {b L : Nat} {xs : Nat → Int32} {G : va_G} {aX : Nat → Nat} {CX : Nat → ClassId} {aM : Nat → Nat} {CM : Nat → ClassId} {oo : Nat} {Co : ClassId} (h : LC p s m meth c b L xs G aX CX aM CM oo Co) {Q : State → Prop} {cells slots : Nat} (hcs : cells + 1 ≤ 1047) (hss : slots + 6 ≤ 9875) {t : Nat} (ht : 7 * t + 7 ≤ L) (hL : ∀ e : Env, l.admits e → e.platform.stackTraces = false) (cont : ∀ (H : Heap) (locs : List Loc) (ls : Array Slot), LSt s b G aX CX aM CM oo Co t H locs ls → W p l e room_1 s m #[Value.ref b] below meth c H locs (cells + 1) (slots + 6) Q (F0 m 1185 ls [])) : ∀ (H : Heap) (locs : List Loc) (ls : Array Slot), LSt s b G aX CX aM CM oo Co t H locs ls → W p l e room_1 s m #[Value.ref b] below meth c H locs cells slots Q (F0 m 1016 ls []) := by
  intro H locs ls ⟨K, D, T, w, O, f, th, Lf, sz, hi, hO, hP, hPM, hS, hl⟩
  have hs := ft_iv_le hi
  have hap := h.2.2
  have hW : ∀ n, T n = true → cwt T w n = w n := fun n hn => cwt_t hn
  rcases Nat.lt_or_ge sz 2 with h0 | h0
  · have hw := lw_nearest_NS l G aX CX oo Co hap.1 K D (cwt T w) O (nI sz) f (bx_nearest l hL G aX CX K D (cwt T w) O (nI sz) (nI_lt (b := 2) h0 (by decide)))
    have hm := cm_nearest_few l G aM CM (dM5 hap.2.1 CM) T K D w th (by rw [ft_iv_cnt hi]; exact h0)
    exact op_nearest h hcs hss ht (by decide)  hw hm (fun z => absurd z (by decide)) (fun H locs ls hP hPM hS hl => cont H locs ls ⟨K, D, T, w, O, _, _, Lf, sz, hi, hO, hP, hPM, hS, hl⟩) H locs ls hP hPM hS hl
  · have hw := lw_nearest_ok l G aX CX oo Co hap.1 K D (cwt T w) O (nI sz) f (cx_nearest l G aX CX K D (cwt T w) O Lf sz hs hO h0)
    have hm := cm_nearest l G aM CM (dM5 hap.2.1 CM) T K D w th (by rw [ft_iv_cnt hi]; exact h0)
    rw [ft_nearest hi h0] at hw
    exact op_nearest h hcs hss ht (by decide)  hw hm (fun _ => by rw [pk_uLs]) (fun H locs ls hP hPM hS hl => cont H locs ls ⟨K, D, T, w, O, _, _, Lf, sz, hi, hO, hP, hPM, hS, hl⟩) H locs ls hP hPM hS hl
set_option maxHeartbeats 4000000 in
theorem st_weight {p : Program} {l : Launch} {e : Env} {s : State} {m : MethodId} {below : List Frame} {meth : Method} {c : Code} {b L : Nat} {xs : Nat → Int32} {G : va_G} {aX : Nat → Nat} {CX : Nat → ClassId} {aM : Nat → Nat} {CM : Nat → ClassId} {oo : Nat} {Co : ClassId} (h : LC p s m meth c b L xs G aX CX aM CM oo Co) {Q : State → Prop} {cells slots : Nat} (hcs : cells + 1 ≤ 1047) (hss : slots + 6 ≤ 9875) {t : Nat} (ht : 7 * t + 7 ≤ L) (hL : ∀ e : Env, l.admits e → e.platform.stackTraces = false) (cont : ∀ (H : Heap) (locs : List Loc) (ls : Array Slot), LSt s b G aX CX aM CM oo Co t H locs ls → W p l e room_1 s m #[Value.ref b] below meth c H locs (cells + 1) (slots + 6) Q (F0 m 1185 ls [])) : ∀ (H : Heap) (locs : List Loc) (ls : Array Slot), LSt s b G aX CX aM CM oo Co t H locs ls → W p l e room_1 s m #[Value.ref b] below meth c H locs cells slots Q (F0 m 915 ls []) := by
  intro H locs ls ⟨K, D, T, w, O, f, th, Lf, sz, hi, hO, hP, hPM, hS, hl⟩
  have hs := ft_iv_le hi
  have hap := h.2.2
  have hW : ∀ n, T n = true → cwt T w n = w n := fun n hn => cwt_t hn
  obtain ⟨y, hy⟩ : ∃ y, ft_lg (xs (7 * t + 1)) (xs (7 * t + 2)) = y := ⟨_, rfl⟩
  have hv := cx_weight l G aX CX K D (cwt T w) O Lf sz hs hO y
  rw [ft_weight hi hW y] at hv
  have hm := cm_weight l G aM CM (dM5 hap.2.1 CM) T K D w th y
  exact op_weight h hcs hss ht (by decide) hy hv hm (fun H locs ls hP hPM hS hl => W.widen (Nat.le_succ _) (Nat.le_add_right _ _) (cont H locs ls ⟨K, D, T, w, O, _, _, Lf, sz, hi, hO, hP, hPM, hS, hl⟩)) H locs ls hP hPM hS hl
set_option maxHeartbeats 4000000 in
theorem st_count {p : Program} {l : Launch} {e : Env} {s : State} {m : MethodId} {below : List Frame} {meth : Method} {c : Code} {b L : Nat} {xs : Nat → Int32} {G : va_G} {aX : Nat → Nat} {CX : Nat → ClassId} {aM : Nat → Nat} {CM : Nat → ClassId} {oo : Nat} {Co : ClassId} (h : LC p s m meth c b L xs G aX CX aM CM oo Co) {Q : State → Prop} {cells slots : Nat} (hcs : cells + 1 ≤ 1047) (hss : slots + 6 ≤ 9875) {t : Nat} (ht : 7 * t + 7 ≤ L) (hL : ∀ e : Env, l.admits e → e.platform.stackTraces = false) (cont : ∀ (H : Heap) (locs : List Loc) (ls : Array Slot), LSt s b G aX CX aM CM oo Co t H locs ls → W p l e room_1 s m #[Value.ref b] below meth c H locs (cells + 1) (slots + 6) Q (F0 m 1185 ls [])) : ∀ (H : Heap) (locs : List Loc) (ls : Array Slot), LSt s b G aX CX aM CM oo Co t H locs ls → W p l e room_1 s m #[Value.ref b] below meth c H locs cells slots Q (F0 m 1160 ls []) := by
  intro H locs ls ⟨K, D, T, w, O, f, th, Lf, sz, hi, hO, hP, hPM, hS, hl⟩
  have hs := ft_iv_le hi
  have hap := h.2.2
  have hW : ∀ n, T n = true → cwt T w n = w n := fun n hn => cwt_t hn
  rcases x012 (xs (7 * t + 1)) with hy | hy | hy | ⟨h0, h1, h2, hy⟩
  · have hv := cx_count_0 l G aX CX K D (cwt T w) O Lf sz hs hO
    have hm := cm_count_0 l G aM CM (dM5 hap.2.1 CM) T K D w th
    rw [ft_iv_cnt hi] at hm
    exact op_count h hcs hss ht (by decide) hy hv hm (fun H locs ls hP hPM hS hl => W.widen (Nat.le_succ _) (Nat.le_add_right _ _) (cont H locs ls ⟨K, D, T, w, O, _, _, Lf, sz, hi, hO, hP, hPM, hS, hl⟩)) H locs ls hP hPM hS hl
  · have hv := cx_count_1 l G aX CX K D (cwt T w) O Lf sz hs hO
    have hm := cm_count_1 l G aM CM (dM5 hap.2.1 CM) T K D w th
    rw [← ft_W_row hi hW, Int32.toInt32_toInt64] at hm
    exact op_count h hcs hss ht (by decide) hy hv hm (fun H locs ls hP hPM hS hl => W.widen (Nat.le_succ _) (Nat.le_add_right _ _) (cont H locs ls ⟨K, D, T, w, O, _, _, Lf, sz, hi, hO, hP, hPM, hS, hl⟩)) H locs ls hP hPM hS hl
  · have hv := cx_count_2 l G aX CX K D (cwt T w) O Lf sz hs hO
    have hm := cm_count_2 l G aM CM (dM5 hap.2.1 CM) T K D w th
    rw [ft_W_row hi hW, ft_S_row hi hW] at hv
    rw [ft_fair_cnt hi] at hm
    exact op_count h hcs hss ht (by decide) hy hv hm (fun H locs ls hP hPM hS hl => W.widen (Nat.le_succ _) (Nat.le_add_right _ _) (cont H locs ls ⟨K, D, T, w, O, _, _, Lf, sz, hi, hO, hP, hPM, hS, hl⟩)) H locs ls hP hPM hS hl
  · have hv := cx_count_x l G aX CX K D (cwt T w) O Lf sz hs hO hy
    have hm := cm_count_x l G aM CM (dM5 hap.2.1 CM) T K D w th h0 h1 h2
    exact op_count h hcs hss ht (by decide) rfl hv hm (fun H locs ls hP hPM hS hl => W.widen (Nat.le_succ _) (Nat.le_add_right _ _) (cont H locs ls ⟨K, D, T, w, O, _, _, Lf, sz, hi, hO, hP, hPM, hS, hl⟩)) H locs ls hP hPM hS hl
set_option maxHeartbeats 4000000 in
theorem st_cut {p : Program} {l : Launch} {e : Env} {s : State} {m : MethodId} {below : List Frame} {meth : Method} {c : Code} {b L : Nat} {xs : Nat → Int32} {G : va_G} {aX : Nat → Nat} {CX : Nat → ClassId} {aM : Nat → Nat} {CM : Nat → ClassId} {oo : Nat} {Co : ClassId} (h : LC p s m meth c b L xs G aX CX aM CM oo Co) {Q : State → Prop} {cells slots : Nat} (hcs : cells + 1 ≤ 1047) (hss : slots + 6 ≤ 9875) {t : Nat} (ht : 7 * t + 7 ≤ L) (hL : ∀ e : Env, l.admits e → e.platform.stackTraces = false) (cont : ∀ (H : Heap) (locs : List Loc) (ls : Array Slot), LSt s b G aX CX aM CM oo Co t H locs ls → W p l e room_1 s m #[Value.ref b] below meth c H locs (cells + 1) (slots + 6) Q (F0 m 1185 ls [])) : ∀ (H : Heap) (locs : List Loc) (ls : Array Slot), LSt s b G aX CX aM CM oo Co t H locs ls → W p l e room_1 s m #[Value.ref b] below meth c H locs cells slots Q (F0 m 1059 ls []) := by
  intro H locs ls ⟨K, D, T, w, O, f, th, Lf, sz, hi, hO, hP, hPM, hS, hl⟩
  have hs := ft_iv_le hi
  have hap := h.2.2
  have hW : ∀ n, T n = true → cwt T w n = w n := fun n hn => cwt_t hn
  obtain ⟨y, hy⟩ : ∃ y, ft_lg (xs (7 * t + 1)) (xs (7 * t + 2)) = y := ⟨_, rfl⟩
  obtain ⟨z, hz⟩ : ∃ z, ft_lg (xs (7 * t + 3)) (xs (7 * t + 4)) = z := ⟨_, rfl⟩
  have hm := cm_cut l G aM CM (dM5 hap.2.1 CM) T K D w th y z
  rw [ft_cut_cnt hi y z] at hm
  have h1 := ft_stretch hi y z
  rcases Nat.lt_or_ge (ft_fb (fun i => ft_sb K y 0 (Lf i)) sz 0) (ft_fb (fun i => ft_sb K z 200 (Lf i)) sz 0) with h0 | h0
  · have hv := cx_cut_some l G aX CX (dX5 hap.1.1 CX) K D (cwt T w) O Lf sz hs hO y z h0
    generalize ea : ft_fb (fun i => ft_sb K y 0 (Lf i)) sz 0 = a at hv hm h0 h1
    generalize eb : ft_fb (fun i => ft_sb K z 200 (Lf i)) sz 0 = b2 at hv hm h0 h1
    have hT := cut_T hi y z ea eb
    rw [zr_cwt (Nat.le_of_lt h0) hT] at hv
    exact op_cut h hcs hss ht (by decide) hy hz hv hm (fun H locs ls hP hPM hS hl => W.widen (Nat.le_succ _) (Nat.le_add_right _ _) (cont H locs ls ⟨K, D, _, w, _, _, _, ft_rm Lf a b2, sz - (b2 - a), ft_iv_rem hi (Nat.le_of_lt h0) h1.2.1 hT, hO_rm hO (Nat.le_of_lt h0) h1.2.1, hP, hPM, hS, hl⟩)) H locs ls hP hPM hS hl
  · have hv := cx_cut_none l G aX CX (dX5 hap.1.1 CX) K D (cwt T w) O Lf sz hs hO y z h0
    have hT : ft_tc T (fun n => decide (y ≤ K n) && decide (K n ≤ z)) 200 = T := by
      funext n
      have h2 := cut_T hi y z rfl rfl n
      have h3 : (∀ i, ft_fb (fun i => ft_sb K y 0 (Lf i)) sz 0 ≤ i → i < ft_fb (fun i => ft_sb K z 200 (Lf i)) sz 0 → Lf i ≠ n) := fun i h4 h5 => by omega
      cases hn : T n
      · rw [Bool.eq_false_iff]
        intro h6
        rw [(h2.mp h6).1] at hn
        cases hn
      · exact h2.mpr ⟨hn, h3⟩
    rw [hT, Nat.sub_eq_zero_of_le h0] at hm
    exact op_cut h hcs hss ht (by decide) hy hz hv hm (fun H locs ls hP hPM hS hl => W.widen (Nat.le_succ _) (Nat.le_add_right _ _) (cont H locs ls ⟨K, D, T, w, O, _, _, Lf, sz, hi, hO, hP, hPM, hS, hl⟩)) H locs ls hP hPM hS hl
set_option maxHeartbeats 4000000 in
theorem st_put {p : Program} {l : Launch} {e : Env} {s : State} {m : MethodId} {below : List Frame} {meth : Method} {c : Code} {b L : Nat} {xs : Nat → Int32} {G : va_G} {aX : Nat → Nat} {CX : Nat → ClassId} {aM : Nat → Nat} {CM : Nat → ClassId} {oo : Nat} {Co : ClassId} (h : LC p s m meth c b L xs G aX CX aM CM oo Co) {Q : State → Prop} {cells slots : Nat} (hcs : cells + 1 ≤ 1047) (hss : slots + 6 ≤ 9875) {t : Nat} (ht : 7 * t + 7 ≤ L) (hL : ∀ e : Env, l.admits e → e.platform.stackTraces = false) (cont : ∀ (H : Heap) (locs : List Loc) (ls : Array Slot), LSt s b G aX CX aM CM oo Co t H locs ls → W p l e room_1 s m #[Value.ref b] below meth c H locs (cells + 1) (slots + 6) Q (F0 m 1185 ls [])) : ∀ (H : Heap) (locs : List Loc) (ls : Array Slot), LSt s b G aX CX aM CM oo Co t H locs ls → W p l e room_1 s m #[Value.ref b] below meth c H locs cells slots Q (F0 m 116 ls []) := by
  intro H locs ls ⟨K, D, T, w, O, f, th, Lf, sz, hi, hO, hP, hPM, hS, hl⟩
  have hs := ft_iv_le hi
  have hap := h.2.2
  have hW : ∀ n, T n = true → cwt T w n = w n := fun n hn => cwt_t hn
  obtain ⟨key, ek⟩ : ∃ y, ft_lg (xs (7 * t + 2)) (xs (7 * t + 3)) = y := ⟨_, rfl⟩
  obtain ⟨due, ed⟩ : ∃ y, ft_lg (xs (7 * t + 4)) (xs (7 * t + 5)) = y := ⟨_, rfl⟩
  obtain ⟨x, ex⟩ : ∃ y, xs (7 * t + 6) = y := ⟨_, rfl⟩
  have hjs : (xs (7 * t + 1) < 0 ∨ 200 ≤ xs (7 * t + 1)) ∨ ∃ j, j < 200 ∧ xs (7 * t + 1) = nI j := by
    rcases pk_ix (xs (7 * t + 1)) (n := 200) (by decide) with h | h | h
    · exact Or.inl (Or.inl h)
    · exact Or.inl (Or.inr h)
    · exact Or.inr h
  rcases hjs with hjs | ⟨j, hj, hx⟩
  · have hw := lw_put_IA l G aX CX oo Co hap.1 K D (cwt T w) O (nI sz) f (bx_put_1 l hL G aX CX K D (cwt T w) O (nI sz) (key := key) (due := due) (x := x) hjs)
    have hm := cm_put_1 l G aM CM (dM5 hap.2.1 CM) T K D w th (key := key) (due := due) (x := x) hjs
    exact op_put h hcs hss ht (by decide) rfl ek ed ex hw hm (fun z => absurd z (by decide)) (fun H locs ls hP hPM hS hl => cont H locs ls ⟨K, D, T, w, O, _, _, Lf, sz, hi, hO, hP, hPM, hS, hl⟩) H locs ls hP hPM hS hl
  by_cases hk : key < (-1099511627776) ∨ 1099511627776 < key
  · have hw := lw_put_IA l G aX CX oo Co hap.1 K D (cwt T w) O (nI sz) f (bx_put_2 l hL G aX CX K D (cwt T w) O (nI sz) hj (key := key) (due := due) (x := x) hk)
    have hm := cm_put_2 l G aM CM (dM5 hap.2.1 CM) T K D w th hj (key := key) (due := due) (x := x) hk
    exact op_put h hcs hss ht (by decide) hx ek ed ex hw hm (fun z => absurd z (by decide)) (fun H locs ls hP hPM hS hl => cont H locs ls ⟨K, D, T, w, O, _, _, Lf, sz, hi, hO, hP, hPM, hS, hl⟩) H locs ls hP hPM hS hl
  have hk : ¬ key < (-1099511627776) ∧ ¬ 1099511627776 < key := ⟨fun z => hk (Or.inl z), fun z => hk (Or.inr z)⟩
  by_cases h1 : x < 1
  · have hw := lw_put_IA l G aX CX oo Co hap.1 K D (cwt T w) O (nI sz) f (bx_put_3 l hL G aX CX K D (cwt T w) O (nI sz) hj (key := key) (due := due) (x := x) hk h1)
    have hm := cm_put_3 l G aM CM (dM5 hap.2.1 CM) T K D w th hj (key := key) (due := due) (x := x) hk h1
    exact op_put h hcs hss ht (by decide) hx ek ed ex hw hm (fun z => absurd z (by decide)) (fun H locs ls hP hPM hS hl => cont H locs ls ⟨K, D, T, w, O, _, _, Lf, sz, hi, hO, hP, hPM, hS, hl⟩) H locs ls hP hPM hS hl
  by_cases h2 : 1000 < x
  · have hw := lw_put_IA l G aX CX oo Co hap.1 K D (cwt T w) O (nI sz) f (bx_put_4 l hL G aX CX K D (cwt T w) O (nI sz) hj (key := key) (due := due) (x := x) hk h1 h2)
    have hm := cm_put_4 l G aM CM (dM5 hap.2.1 CM) T K D w th hj (key := key) (due := due) (x := x) hk h1 h2
    exact op_put h hcs hss ht (by decide) hx ek ed ex hw hm (fun z => absurd z (by decide)) (fun H locs ls hP hPM hS hl => cont H locs ls ⟨K, D, T, w, O, _, _, Lf, sz, hi, hO, hP, hPM, hS, hl⟩) H locs ls hP hPM hS hl
  have h3 : x ≤ 1000 := by
    rw [Int32.lt_iff_toInt_lt] at h2
    rw [Int32.le_iff_toInt_le]
    omega
  have hxb : 1 ≤ x.toInt ∧ x.toInt ≤ 1000 := by
    rw [Int32.lt_iff_toInt_lt] at h1
    rw [Int32.le_iff_toInt_le] at h3
    have e1 : (1 : Int32).toInt = 1 := rfl
    have e2 : (1000 : Int32).toInt = 1000 := rfl
    omega
  have hkb : -2199023255552 ≤ key.toInt ∧ key.toInt ≤ 2199023255552 := by
    rw [Int64.lt_iff_toInt_lt, Int64.lt_iff_toInt_lt] at hk
    have e1 : (-1099511627776 : Int64).toInt = -1099511627776 := rfl
    have e2 : (1099511627776 : Int64).toInt = 1099511627776 := rfl
    omega
  have hm := cm_put l G aM CM (dM5 hap.2.1 CM) T K D w th hj (key := key) (due := due) (x := x) hk h1 h3
  by_cases hT : T j = true
  · obtain ⟨q, hq, hLq, hfb, _⟩ := ft_rank hi hT
    have hi2 := rem_iv hi hq hLq
    have hT2 : (fun i => if i = j then false else T i) j = false := if_pos rfl
    have hw := lw_put_ok l G aX CX oo Co hap.1 K D (cwt T w) O (nI sz) f (cx_put_old l G aX CX (dX5 hap.1.1 CX) K D (cwt T w) O Lf sz hs hO hj (key := key) (due := due) (x := x) hk h1 h3 (cwt_pos hi hT) (by rw [hfb]; exact hq))
    have hz := zr_cwt (w := w) (Nat.le_succ q) (rem1 (T := T) (K := K) (w := w) (sz := sz) hLq)
    have e1 : q + 1 - q = 1 := by omega
    rw [show q.succ = q + 1 from rfl, e1] at hz
    rw [hfb, hz, up_cwt, up_T] at hw
    have hO2 : ∀ i, i < sz - 1 → va_cpy O O (q + 1) q (sz - (q + 1)) i = nI (ft_rm Lf q (q + 1) i) ∧ ft_rm Lf q (q + 1) i < 200 := fun i h3 => hO_rm hO (Nat.le_succ q) hq i (by omega)
    generalize hg : ft_fb (fun i => ft_sb (vp_updL K j key) ((vp_updL K j key) j) (nI j) ((ft_rm Lf q (q + 1)) i)) (sz - 1) 0 = g at hw
    obtain ⟨g1, g2, g3⟩ := ins_fb hi2 hj hT2 hg
    have hi3 := ft_iv_ins hi2 hj hT2 hxb hkb g1 g2 g3
    rw [up_T] at hi3
    rw [ft_iv_cnt hi3] at hm
    exact op_put h hcs hss ht (by decide) hx ek ed ex hw hm (fun _ => by rw [pk_uLs]) (fun H locs ls hP hPM hS hl => cont H locs ls ⟨_, _, _, _, _, _, _, _, _, hi3, hO_in hO2 g1 hj, hP, hPM, hS, hl⟩) H locs ls hP hPM hS hl
  · have hT2 : T j = false := Bool.eq_false_iff.mpr hT
    obtain ⟨g, hg⟩ : ∃ g, ft_fb (fun i => ft_sb (vp_updL K j key) ((vp_updL K j key) j) (nI j) (Lf i)) sz 0 = g := ⟨_, rfl⟩
    obtain ⟨g1, g2, g3⟩ := ins_fb hi hj hT2 hg
    have hi3 := ft_iv_ins hi hj hT2 hxb hkb g1 g2 g3
    have hz : sz < 200 := ft_iv_le hi3
    have hw := lw_put_ok l G aX CX oo Co hap.1 K D (cwt T w) O (nI sz) f (cx_put_new l G aX CX (dX5 hap.1.1 CX) K D (cwt T w) O Lf sz hs hO hj (key := key) (due := due) (x := x) hk h1 h3 (cwt_no hT) hz)
    rw [hg, up_cwt] at hw
    rw [ft_iv_cnt hi3] at hm
    exact op_put h hcs hss ht (by decide) hx ek ed ex hw hm (fun _ => by rw [pk_uLs]) (fun H locs ls hP hPM hS hl => cont H locs ls ⟨_, _, _, _, _, _, _, _, _, hi3, hO_in hO g1 hj, hP, hPM, hS, hl⟩) H locs ls hP hPM hS hl
