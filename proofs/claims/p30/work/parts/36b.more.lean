theorem ite_at2 {i kk : Nat} {f : Nat → Bool} : (va_up (fun z => if z < i then false else f z) i false kk) = if kk < i + 1 then false else f kk := by
  unfold va_up
  by_cases e : kk = i
  · subst e; simp
  · have : (kk < i) = (kk < i + 1) := by apply propext; omega
    simp [e, this]
theorem lvs_free0 {E : Nat → Nat → Bool} {bL bR : Nat → Option Nat} {nl nr z : Nat} : ∀ n, lvs E bL bR nl nr n z = some 0 ↔ lv0 nl bL z = some 0
  | 0 => Iff.rfl
  | n + 1 => by
    rw [← lvs_free0 n]
    show lvp E bR nr n (lvs E bL bR nl nr n) nl z = some 0 ↔ _
    unfold lvp
    cases lvs E bL bR nl nr n z with
    | some y => rfl
    | none =>
      simp only
      constructor
      · intro h
        split at h
        · have := Option.some.inj h; omega
        · cases h
      · intro h; cases h
theorem lvs_free {E : Nat → Nat → Bool} {bL bR : Nat → Option Nat} {nl nr n z : Nat} (hz : z < nl) (h : bL z = none) : lvs E bL bR nl nr n z = some 0 := (lvs_free0 n).mpr (lv0_a hz h).symm
theorem lvs_kept {E : Nat → Nat → Bool} {bL bR : Nat → Option Nat} {nl nr z : Nat} {lev : Nat → Option Nat} {w : Bool} (hz : z < nl) (hl : lev z = lvs E bL bR nl nr nl z) (hw : w = (bL z).isNone) (h : w = false) : ¬ lev z = some 0 := by
  rw [hl, lvs_free0]
  cases k : bL z with
  | none => rw [hw, k] at h; cases h
  | some v =>
    rw [← lv0_b hz k]
    intro q
    cases q
