/-! rows for methods that write -/
section QWC
variable {p : Program} {l : Launch} {e : Env} {R : Room} {s : State} {m : MethodId} {args : Array Value} {below : List Frame} {meth : Method} {c : Code} {H H0 : Heap} {locs : List Loc} {cells slots : Nat} {Q : State → Prop} {pc : Nat} {ls : Array Slot} {rest : List Value} {cc : ByteArray} {D : va_G} {cl : List vw_C} {tys : List (ClassId × FieldType)} {ws : va_W} {A : Nat → Prop} {a : Nat}
theorem q_copyi (hexec : p.tables.exec = Jvm.exec) (hb : c.code = cc) (hml : c.maxLocals = ls.size) {own : String} {index : Nat} (hown : s.vm.findClass own = some m.cls) (hlink : (Cond.methodLink own index arraycopyName).before args s = true) (hnat : (Cond.native arraycopyName).before args s = true) (hstat : (Cond.static arraycopyName).before args s = true) (hini : (Cond.initialized "java/lang/System").before args s = true)
    (hK : va_K D cl tys s) (hP : va_P D cl ws H) (hD : va_D A ws) (hS : va_S A H0 H locs) (q0 q1 t0 t1 : Nat) {a0 : Nat} {c0 c1 : ClassId} {n0 n1 : Nat} {f g : Nat → Int32} (ha0 : ws[q0]? = some (a0, .inl (c0, n0, .inl f))) (ha1 : ws[q1]? = some (a, .inl (c1, n1, .inl g))) (ht0 : tys[t0]? = some (c0, .int)) (ht1 : tys[t1]? = some (c1, .int))
    {sp dp n : Int32} (u v k : Nat) (e1 : sp = nI u) (e2 : dp = nI v) (e3 : n = nI k) (h4 : u + k ≤ n0) (h5 : v + k ≤ n1) (h6 : n0 < 2 ^ 31) (h7 : n1 < 2 ^ 31)
    (hframes : 1 ≤ R.frames) (hlocals : (rest.map fun v => v.category).sum + (nativeFrameWords "java/lang/System" "arraycopy" 5 + 11) ≤ R.locals) (hdg : decode cc pc = .ok (.invokestatic index, 3))
    (kk : ∀ (H1 : Heap) (locs1 : List Loc), va_P D cl (ws.set q1 (a, .inl (c1, n1, .inl (va_cpy f g u v k)))) H1 → va_S A H0 H1 locs1 → W p l e R s m args below meth c H1 locs1 cells slots Q (F0 m (pc + 3) ls rest)) :
    W p l e R s m args below meth c H locs cells slots Q (F0 m pc ls (.int n :: .int dp :: .ref a :: .int sp :: .ref a0 :: rest)) := by
  subst e1 e2 e3
  have c1' : (nI u).toNatClampNeg = u := nI_clamp (by omega)
  have c2' : (nI v).toNatClampNeg = v := nI_clamp (by omega)
  have c3' : (nI k).toNatClampNeg = k := nI_clamp (by omega)
  refine va_copyi (ty := .int) hexec hb hml hown hlink hnat hstat hini hK hP hD hS q0 q1 t0 t1 ha0 ha1 ht0 ht1 rfl (nI_pos (by omega)) (nI_pos (by omega)) (nI_pos (by omega)) (by rw [c1', c3']; exact h4) (by rw [c2', c3']; exact h5) (fun _ _ => rfl) hframes hlocals hdg (fun H1 locs1 h1 _ h3 => ?_)
  rw [c1', c2', c3'] at h1
  exact kk H1 locs1 h1 h3
end QWC
/-- the weights of a stretch of the row go to 0 -/
def ft_zr (Lf : Nat → Nat) : Nat → Nat → (Nat → Int32) → (Nat → Int32)
  | 0, _, Wt => Wt
  | k + 1, i, Wt => ft_zr Lf k (i + 1) (upd Wt (Lf i) 0)
theorem ft_zr_in (Lf : Nat → Nat) : ∀ k i Wt n, (∃ j, i ≤ j ∧ j < i + k ∧ Lf j = n) → ft_zr Lf k i Wt n = 0 := by
  intro k
  induction k with
  | zero => intro i Wt n ⟨j, h1, h2, _⟩; omega
  | succ k ih =>
    intro i Wt n ⟨j, h1, h2, e⟩
    show ft_zr Lf k (i + 1) (upd Wt (Lf i) 0) n = 0
    by_cases c : ∃ j, i + 1 ≤ j ∧ j < i + 1 + k ∧ Lf j = n
    · exact ih (i + 1) _ n c
    · have ej : j = i := by
        by_cases ej : j = i
        · exact ej
        · exact absurd ⟨j, by omega, by omega, e⟩ c
      have out : ∀ k i Wt n, (¬ ∃ j, i ≤ j ∧ j < i + k ∧ Lf j = n) → ft_zr Lf k i Wt n = Wt n := by
        intro k
        induction k with
        | zero => intro i Wt n _; rfl
        | succ k ih2 =>
          intro i Wt n h
          show ft_zr Lf k (i + 1) (upd Wt (Lf i) 0) n = Wt n
          rw [ih2 (i + 1) _ n (fun ⟨j, a, b, c⟩ => h ⟨j, by omega, by omega, c⟩)]
          exact pk_un (fun q => h ⟨i, by omega, by omega, q.symm⟩)
      rw [out k (i + 1) _ n c, ← e, ej]
      exact pk_us
theorem ft_zr_out (Lf : Nat → Nat) : ∀ k i Wt n, (¬ ∃ j, i ≤ j ∧ j < i + k ∧ Lf j = n) → ft_zr Lf k i Wt n = Wt n := by
  intro k
  induction k with
  | zero => intro i Wt n _; rfl
  | succ k ih2 =>
    intro i Wt n h
    show ft_zr Lf k (i + 1) (upd Wt (Lf i) 0) n = Wt n
    rw [ih2 (i + 1) _ n (fun ⟨j, a, b, c⟩ => h ⟨j, by omega, by omega, c⟩)]
    exact pk_un (fun q => h ⟨i, by omega, by omega, q.symm⟩)
/-- all keys of the row go by y -/
def ft_sl (Lf : Nat → Nat) (y : Int64) : Nat → Nat → (Nat → Int64) → (Nat → Int64)
  | 0, _, K => K
  | k + 1, i, K => ft_sl Lf y k (i + 1) (vp_updL K (Lf i) (K (Lf i) + y))
theorem ft_sl_out (Lf : Nat → Nat) (y : Int64) : ∀ k i K n, (¬ ∃ j, i ≤ j ∧ j < i + k ∧ Lf j = n) → ft_sl Lf y k i K n = K n := by
  intro k
  induction k with
  | zero => intro i K n _; rfl
  | succ k ih =>
    intro i K n h
    show ft_sl Lf y k (i + 1) (vp_updL K (Lf i) (K (Lf i) + y)) n = K n
    rw [ih (i + 1) _ n (fun ⟨j, a, b, c⟩ => h ⟨j, by omega, by omega, c⟩)]
    exact pk_uLn (fun q => h ⟨i, by omega, by omega, q.symm⟩)
theorem ft_sl_in (Lf : Nat → Nat) (y : Int64) : ∀ k i K n, (∀ j j', i ≤ j → j < j' → j' < i + k → Lf j ≠ Lf j') → (∃ j, i ≤ j ∧ j < i + k ∧ Lf j = n) → ft_sl Lf y k i K n = K n + y := by
  intro k
  induction k with
  | zero => intro i K n _ ⟨j, h1, h2, _⟩; omega
  | succ k ih =>
    intro i K n hi ⟨j, h1, h2, e⟩
    show ft_sl Lf y k (i + 1) (vp_updL K (Lf i) (K (Lf i) + y)) n = K n + y
    by_cases ej : j = i
    · rw [ft_sl_out Lf y k (i + 1) _ n (fun ⟨j', a, b, c⟩ => hi i j' (by omega) (by omega) (by omega) (by rw [c, ← e, ej])), ← e, ej]
      exact pk_uLs
    · rw [ih (i + 1) _ n (fun j j' a b c => hi j j' (by omega) b (by omega)) ⟨j, by omega, by omega, e⟩]
      rw [pk_uLn]
      intro q
      exact hi i j (by omega) (by omega) (by omega) (by rw [e, q])
theorem ft_sl_eq {T : Nat → Bool} {K : Nat → Int64} {w : Nat → Int32} {Lf : Nat → Nat} {sz : Nat} (h : ft_iv T K w Lf sz) (y : Int64) : ft_sl Lf y sz 0 K = fun n => if T n = true then K n + y else K n := by
  funext n
  by_cases t : T n = true
  · rw [if_pos t]
    obtain ⟨i, hi, e⟩ := h.2.2.1 n t
    exact ft_sl_in Lf y sz 0 K n (fun j j' _ a b => ft_iv_ne h a (by omega)) ⟨i, by omega, by omega, e⟩
  · rw [if_neg t]
    exact ft_sl_out Lf y sz 0 K n (fun ⟨j, _, b, c⟩ => t (by rw [← c]; exact h.2.1 j (by omega)))
