/-! words for the reference -/
/-- the edges as a table -/
def tb (E : Nat → Nat → Bool) : Nat → Bool := fun k => E (k / 12) (k % 12)
theorem tb_at (E : Nat → Nat → Bool) {x y : Nat} (hy : y < 12) : tb E (12 * x + y) = E x y := by
  unfold tb
  rw [show (12 * x + y) / 12 = x by omega, show (12 * x + y) % 12 = y by omega]
theorem tb_ad (E : Nat → Nat → Bool) {x y : Nat} (hy : y < 12) (kk : Nat) : va_up (tb E) (12 * x + y) true kk = tb (adE E x y) kk := by
  unfold va_up tb adE
  by_cases h : kk = 12 * x + y
  · subst h
    rw [if_pos rfl, show (12 * x + y) / 12 = x by omega, show (12 * x + y) % 12 = y by omega]
    simp
  · rw [if_neg h]
    have : (decide (kk / 12 = x) && decide (kk % 12 = y)) = false := by
      rw [Bool.and_eq_false_iff, decide_eq_false_iff_not, decide_eq_false_iff_not]
      by_cases q : kk / 12 = x
      · exact Or.inr (fun q2 => h (by omega))
      · exact Or.inl q
    rw [this, Bool.or_false]
theorem tb_rm (E : Nat → Nat → Bool) {x y : Nat} (hy : y < 12) (kk : Nat) : va_up (tb E) (12 * x + y) false kk = tb (rmE E x y) kk := by
  unfold va_up tb rmE
  by_cases h : kk = 12 * x + y
  · subst h
    rw [if_pos rfl, show (12 * x + y) / 12 = x by omega, show (12 * x + y) % 12 = y by omega]
    simp
  · rw [if_neg h]
    have : (decide (kk / 12 = x) && decide (kk % 12 = y)) = false := by
      rw [Bool.and_eq_false_iff, decide_eq_false_iff_not, decide_eq_false_iff_not]
      by_cases q : kk / 12 = x
      · exact Or.inr (fun q2 => h (by omega))
      · exact Or.inl q
    rw [this]
    simp
/-- a path backwards that ends within n steps -/
def chn (lf : Nat → Option Nat) : Nat → (Nat → Option Nat) → Option Nat → Prop
  | 0, _, o => o = none
  | _ + 1, _, none => True
  | n + 1, mL, some r => ∃ l, lf r = some l ∧ r < 12 ∧ l < 12 ∧ chn lf n (va_up mL l (some r)) (mL l)
theorem chn_go {lf mL : Nat → Option Nat} {n r : Nat} (h : chn lf n mL (some r)) : ∃ n1 l, n = n1 + 1 ∧ lf r = some l ∧ r < 12 ∧ l < 12 ∧ chn lf n1 (va_up mL l (some r)) (mL l) := by
  cases n with
  | zero => cases h
  | succ n =>
    obtain ⟨l, a, b, c, d⟩ := h
    exact ⟨n, l, rfl, a, b, c, d⟩
theorem chn_lt {lf mL : Nat → Option Nat} {n r : Nat} (h : chn lf n mL (some r)) : r < 12 := by
  obtain ⟨n1, l, -, -, a, -⟩ := chn_go h
  exact a
def lkf (E : Nat → Nat → Bool) (mR : Nat → Option Nat) (nr x j : Nat) (fo : Option Nat) (t : TQ) : Option Nat × TQ := match fo with
  | none => lkr E mR x (nr - j) j t
  | some v => (some v, t)
def bff (E : Nat → Nat → Bool) (mR : Nat → Option Nat) (nr h : Nat) (fo : Option Nat) (t : TQ) : Option Nat × TQ := match fo with
  | none => bfs E mR nr (13 - h) h t
  | some v => (some v, t)
theorem lkf_out {E : Nat → Nat → Bool} {mR : Nat → Option Nat} {nr x j : Nat} {fo : Option Nat} {t : TQ} (h : nr ≤ j) : lkf E mR nr x j fo t = (fo, t) := by
  cases fo with
  | none => exact lkr_end h
  | some v => rfl
theorem bff_out {E : Nat → Nat → Bool} {mR : Nat → Option Nat} {nr h : Nat} {fo : Option Nat} {t : TQ} (hh : h < 13) (q : t.2.2 ≤ h) : bff E mR nr h fo t = (fo, t) := by
  cases fo with
  | none => exact bfs_end hh q
  | some v => rfl
theorem bff_open {E : Nat → Nat → Bool} {mR : Nat → Option Nat} {nr h : Nat} {t : TQ} (hh : h < 13) (q : h < t.2.2) : bff E mR nr h none t = bff E mR nr (h + 1) (lkr E mR (t.2.1 h) nr 0 t).1 (lkr E mR (t.2.1 h) nr 0 t).2 := by
  cases k : (lkr E mR (t.2.1 h) nr 0 t).1 with
  | none => exact bfs_go hh q k
  | some v => exact bfs_found hh q k
theorem ite_at {α : Type} {i kk : Nat} {a b : α} : (va_up (fun z => if z < i then a else b) i a kk) = if kk < i + 1 then a else b := by
  unfold va_up
  by_cases e : kk = i
  · subst e; simp
  · have : (kk < i) = (kk < i + 1) := by apply propext; omega
    simp [e, this]
theorem upd_if {f : Nat → Int32} {i kk : Nat} {a : Int32} : (upd (fun z => if z < i then a else f z) i a kk) = if kk < i + 1 then a else f kk := by
  unfold upd
  by_cases e : kk = i
  · subst e; simp
  · have : (kk < i) = (kk < i + 1) := by apply propext; omega
    simp [e, this]
theorem out_dead {a b : Option Nat} (h : a = none ∨ b = none) (ha : a.isSome = true) (hb : b.isSome = true) : False := by
  rcases h with h | h
  · rw [h] at ha; cases ha
  · rw [h] at hb; cases hb
