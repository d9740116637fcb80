/-! the phases, as functions -/
/-- the levels that one left node's edges give -/
def lpt (E : Nat → Nat → Bool) (bR : Nat → Option Nat) (x d1 : Nat) (lev : Nat → Option Nat) (j : Nat) : Nat → Option Nat := fun p => match lev p with
  | some y => some y
  | none => if ex j (fun r => E x r && (bR r == some p)) then some d1 else none
def lvp (E : Nat → Nat → Bool) (bR : Nat → Option Nat) (nr d : Nat) (lev : Nat → Option Nat) (i : Nat) : Nat → Option Nat := fun p => match lev p with
  | some y => some y
  | none => if ex i (fun x => (lev x == some d) && ex nr (fun r => E x r && (bR r == some p))) then some (d + 1) else none
def lv0 (nl : Nat) (bL : Nat → Option Nat) : Nat → Option Nat := fun z => if z < nl then (if (bL z).isNone then some 0 else none) else none
def lvs (E : Nat → Nat → Bool) (bL bR : Nat → Option Nat) (nl nr : Nat) : Nat → Nat → Option Nat
  | 0 => lv0 nl bL
  | n + 1 => lvp E bR nr n (lvs E bL bR nl nr n) nl
theorem lpt_none {E : Nat → Nat → Bool} {bR : Nat → Option Nat} {x d1 : Nat} {lev : Nat → Option Nat} {j : Nat} (h : E x j = false ∨ bR j = none) (z : Nat) : lpt E bR x d1 lev j z = lpt E bR x d1 lev (j + 1) z := by
  unfold lpt
  cases lev z with
  | some y => rfl
  | none =>
    show (if ex j _ then _ else _) = (if ex (j + 1) _ then _ else _)
    rw [ex_succ]
    rcases h with h | h <;> simp [h]
theorem lpt_old {E : Nat → Nat → Bool} {bR : Nat → Option Nat} {x d1 p y : Nat} {lev : Nat → Option Nat} {j : Nat} (h : bR j = some p) (hp : lpt E bR x d1 lev j p = some y) (z : Nat) : lpt E bR x d1 lev j z = lpt E bR x d1 lev (j + 1) z := by
  by_cases e : z = p
  · subst e
    rw [hp]
    unfold lpt at hp ⊢
    cases k : lev z with
    | some w => rw [k] at hp; exact hp.symm
    | none =>
      rw [k] at hp
      simp only at hp ⊢
      by_cases q : ex j (fun r => E x r && (bR r == some z)) = true
      · rw [if_pos q] at hp
        rw [ex_succ, q, Bool.true_or, if_pos rfl]
        exact hp.symm
      · rw [if_neg q] at hp; cases hp
  · unfold lpt
    cases lev z with
    | some y => rfl
    | none =>
      show (if ex j _ then _ else _) = (if ex (j + 1) _ then _ else _)
      rw [ex_succ, h]
      have : (some p == some z) = false := by simp; exact fun q => e q.symm
      simp [this]
theorem lpt_new {E : Nat → Nat → Bool} {bR : Nat → Option Nat} {x d1 p : Nat} {lev : Nat → Option Nat} {j : Nat} (he : E x j = true) (h : bR j = some p) (hp : lpt E bR x d1 lev j p = none) (z : Nat) : va_up (lpt E bR x d1 lev j) p (some d1) z = lpt E bR x d1 lev (j + 1) z := by
  unfold va_up
  by_cases e : z = p
  · subst e
    rw [if_pos rfl]
    unfold lpt at hp ⊢
    cases k : lev z with
    | some w => rw [k] at hp; cases hp
    | none =>
      simp only
      rw [ex_succ, he, h]
      simp
  · rw [if_neg e]
    unfold lpt
    cases lev z with
    | some y => rfl
    | none =>
      show (if ex j _ then _ else _) = (if ex (j + 1) _ then _ else _)
      rw [ex_succ, h]
      have : (some p == some z) = false := by simp; exact fun q => e q.symm
      simp [this]
theorem lvp_no {E : Nat → Nat → Bool} {bR : Nat → Option Nat} {nr d : Nat} {lev : Nat → Option Nat} {i : Nat} (h : ¬ lev i = some d) (z : Nat) : lvp E bR nr d lev i z = lvp E bR nr d lev (i + 1) z := by
  unfold lvp
  cases lev z with
  | some y => rfl
  | none =>
    show (if ex i _ then _ else _) = (if ex (i + 1) _ then _ else _)
    rw [ex_succ]
    have : (lev i == some d) = false := by simpa using h
    simp [this]
theorem lvp_yes {E : Nat → Nat → Bool} {bR : Nat → Option Nat} {nr d : Nat} {lev : Nat → Option Nat} {i : Nat} (h : lev i = some d) {g : Nat → Option Nat} {z : Nat} (hg : g z = lvp E bR nr d lev i z) : lpt E bR i (d + 1) g nr z = lvp E bR nr d lev (i + 1) z := by
  unfold lpt
  rw [hg]
  unfold lvp
  cases lev z with
  | some y => rfl
  | none =>
    simp only
    rw [ex_succ, h]
    by_cases q : ex i (fun x => (lev x == some d) && ex nr (fun r => E x r && (bR r == some z))) = true
    · rw [if_pos q]
      simp [q]
    · rw [if_neg q]
      simp [q]
theorem lvp_at {E : Nat → Nat → Bool} {bR : Nat → Option Nat} {nr d : Nat} {lev : Nat → Option Nat} {i : Nat} (z : Nat) : lvp E bR nr d lev i z = some d ↔ lev z = some d := by
  unfold lvp
  cases k : lev z with
  | some y => rfl
  | none =>
    simp only
    constructor
    · intro h
      by_cases q : ex i (fun x => (lev x == some d) && ex nr (fun r => E x r && (bR r == some z))) = true
      · rw [if_pos q] at h
        have := Option.some.inj h
        omega
      · rw [if_neg q] at h; cases h
    · intro h; cases h
theorem lvs_le {E : Nat → Nat → Bool} {bL bR : Nat → Option Nat} {nl nr : Nat} : ∀ n z v, lvs E bL bR nl nr n z = some v → v ≤ n
  | 0, z, v, h => by
    unfold lvs lv0 at h
    by_cases a : z < nl
    · rw [if_pos a] at h
      by_cases b : (bL z).isNone = true
      · rw [if_pos b] at h; cases h; exact Nat.le_refl _
      · rw [if_neg b] at h; cases h
    · rw [if_neg a] at h; cases h
  | n + 1, z, v, h => by
    have ih := lvs_le (E := E) (bL := bL) (bR := bR) (nl := nl) (nr := nr) n z
    unfold lvs lvp at h
    cases k : lvs E bL bR nl nr n z with
    | some y => rw [k] at h ih; cases h; have := ih _ rfl; omega
    | none =>
      rw [k] at h
      simp only at h
      split at h
      · cases h; exact Nat.le_refl _
      · cases h
theorem lvp_le {E : Nat → Nat → Bool} {bR : Nat → Option Nat} {nr d b : Nat} {lev : Nat → Option Nat} {i z v : Nat} (hl : ∀ z v, lev z = some v → v ≤ b) (hd : d + 1 ≤ b) (h : lvp E bR nr d lev i z = some v) : v ≤ b := by
  unfold lvp at h
  cases k : lev z with
  | some y => rw [k] at h; cases h; exact hl z _ k
  | none =>
    rw [k] at h
    simp only at h
    split at h
    · cases h; exact hd
    · cases h
theorem lpt_le {E : Nat → Nat → Bool} {bR : Nat → Option Nat} {x d1 b : Nat} {lev : Nat → Option Nat} {j z v : Nat} (hl : ∀ v, lev z = some v → v ≤ b) (hd : d1 ≤ b) (h : lpt E bR x d1 lev j z = some v) : v ≤ b := by
  unfold lpt at h
  cases k : lev z with
  | some y => rw [k] at h; cases h; exact hl _ k
  | none =>
    rw [k] at h
    simp only at h
    split at h
    · cases h; exact hd
    · cases h
/-- the least level of a left node that has an edge to a free right node -/
def ldp (lev : Nat → Option Nat) (g : Nat → Bool) : Nat → Option Nat
  | 0 => none
  | n + 1 => match lev n with
    | none => ldp lev g n
    | some y => if g n then
        match ldp lev g n with
        | none => some y
        | some z => if y < z then some y else some z
      else ldp lev g n
theorem ldp_none {lev : Nat → Option Nat} {g : Nat → Bool} {n : Nat} (h : lev n = none) : ldp lev g (n + 1) = ldp lev g n := by rw [ldp, h]
theorem ldp_no {lev : Nat → Option Nat} {g : Nat → Bool} {n : Nat} (h : g n = false) : ldp lev g (n + 1) = ldp lev g n := by
  rw [ldp]
  cases lev n with
  | none => rfl
  | some y => simp [h]
theorem ldp_first {lev : Nat → Option Nat} {g : Nat → Bool} {n y : Nat} (h : lev n = some y) (hg : g n = true) (k : ldp lev g n = none) : ldp lev g (n + 1) = some y := by rw [ldp, h, k]; simp [hg]
theorem ldp_lt {lev : Nat → Option Nat} {g : Nat → Bool} {n y z : Nat} (h : lev n = some y) (hg : g n = true) (k : ldp lev g n = some z) (q : y < z) : ldp lev g (n + 1) = some y := by rw [ldp, h, k]; simp [hg, q]
theorem ldp_ge {lev : Nat → Option Nat} {g : Nat → Bool} {n y z : Nat} (h : lev n = some y) (hg : g n = true) (k : ldp lev g n = some z) (q : ¬ y < z) : ldp lev g (n + 1) = some z := by rw [ldp, h, k]; simp [hg, q]
theorem ldp_in {lev : Nat → Option Nat} {g : Nat → Bool} : ∀ {n v : Nat}, ldp lev g n = some v → ∃ i, i < n ∧ lev i = some v ∧ g i = true
  | 0, v, h => by cases h
  | n + 1, v, h => by
    have go : ldp lev g n = some v → ∃ i, i < n + 1 ∧ lev i = some v ∧ g i = true := fun h => by
      obtain ⟨i, a, b⟩ := ldp_in h
      exact ⟨i, by omega, b⟩
    cases k : lev n with
    | none => rw [ldp_none k] at h; exact go h
    | some y =>
      cases q : g n with
      | false => rw [ldp_no q] at h; exact go h
      | true =>
        cases z : ldp lev g n with
        | none => rw [ldp_first k q z] at h; cases h; exact ⟨n, by omega, k, q⟩
        | some w =>
          by_cases lt : y < w
          · rw [ldp_lt k q z lt] at h; cases h; exact ⟨n, by omega, k, q⟩
          · rw [ldp_ge k q z lt] at h; cases h; exact go z
/-- taken right nodes, partners of the left ones, of the right ones -/
abbrev SG : Type := (Nat → Bool) × (Nat → Option Nat) × (Nat → Option Nat)
def tkb (tk : Nat → Bool) (bR : Nat → Option Nat) (lev : Nat → Option Nat) (dep lv r : Nat) : Bool := !tk r && (match bR r with
  | none => decide (lv = dep)
  | some y => decide (lv < dep) && (lev y == some (lv + 1)))
def tak (lev : Nat → Option Nat) (dep lv : Nat) (t : SG) (r : Nat) : Bool := tkb t.1 t.2.2 lev dep lv r
def fdr (E : Nat → Nat → Bool) (lev : Nat → Option Nat) (dep : Nat) (rec : Nat → SG → Bool × SG) (x lv : Nat) : Nat → Nat → SG → Bool × SG
  | 0, _, t => (false, t)
  | n + 1, r, t => if E x r && tak lev dep lv t r then
      match t.2.2 r with
      | none => (true, (va_up t.1 r true, va_up t.2.1 x (some r), va_up t.2.2 r (some x)))
      | some y => match rec y (va_up t.1 r true, t.2.1, t.2.2) with
        | (true, t2) => (true, (t2.1, va_up t2.2.1 x (some r), va_up t2.2.2 r (some x)))
        | (false, t2) => fdr E lev dep rec x lv n (r + 1) t2
    else fdr E lev dep rec x lv n (r + 1) t
/-- a left node tries to find a partner, the depth of the calls in the first number: its level is dep + 1 less it -/
def fdp (E : Nat → Nat → Bool) (lev : Nat → Option Nat) (dep nr : Nat) : Nat → Nat → SG → Bool × SG
  | 0, _, t => (false, t)
  | f + 1, x, t => fdr E lev dep (fdp E lev dep nr f) x (dep - f) nr 0 t
/-- the left nodes that were free as the phase began, one after another -/
def fps (E : Nat → Nat → Bool) (lev : Nat → Option Nat) (dep nr : Nat) (t0 : SG) : Nat → Nat × SG
  | 0 => (0, t0)
  | n + 1 => if lev n == some 0 then
      match fdp E lev dep nr (dep + 1) n (fps E lev dep nr t0 n).2 with
      | (true, t2) => ((fps E lev dep nr t0 n).1 + 1, t2)
      | (false, t2) => ((fps E lev dep nr t0 n).1, t2)
    else fps E lev dep nr t0 n
def gfr (E : Nat → Nat → Bool) (nr : Nat) (bR : Nat → Option Nat) : Nat → Bool := fun x => ex 12 (fun r => E x r && fre nr bR r)
theorem lv0_yes {nl z : Nat} {bL : Nat → Option Nat} (h : fre nl bL z = true) : some 0 = lv0 nl bL z := by
  unfold fre at h
  unfold lv0
  rw [Bool.and_eq_true, decide_eq_true_eq] at h
  rw [if_pos h.1, if_pos h.2]
theorem lv0_no {nl z : Nat} {bL : Nat → Option Nat} (h : fre nl bL z = false) : none = lv0 nl bL z := by
  unfold fre at h
  unfold lv0
  by_cases a : z < nl
  · rw [if_pos a]
    have : (bL z).isNone = false := by simpa [a] using h
    rw [this]
    rfl
  · rw [if_neg a]
theorem mk_ex {f : Nat → Bool} : (mk f = 0) = (ex 12 f = false) := propext (by rw [mk_eq0, ex_no])
theorem mk_le31 (f : Nat → Bool) : mk f < 2 ^ 31 := Nat.lt_trans (mk_lt f) (by decide)
section FDR
variable {E : Nat → Nat → Bool} {lev : Nat → Option Nat} {dep : Nat} {rec : Nat → SG → Bool × SG} {x lv nr j : Nat} {t : SG}
theorem fdr_no (h : j < nr) (q : E x j = false ∨ tak lev dep lv t j = false) : fdr E lev dep rec x lv (nr - j) j t = fdr E lev dep rec x lv (nr - (j + 1)) (j + 1) t := by
  rw [show nr - j = (nr - (j + 1)) + 1 by omega, fdr, if_neg]
  rcases q with q | q <;> simp [q]
theorem fdr_free (h : j < nr) (q : E x j = true) (k : tak lev dep lv t j = true) (z : t.2.2 j = none) : fdr E lev dep rec x lv (nr - j) j t = (true, (va_up t.1 j true, va_up t.2.1 x (some j), va_up t.2.2 j (some x))) := by
  rw [show nr - j = (nr - (j + 1)) + 1 by omega, fdr, if_pos (by simp [q, k]), z]
theorem fdr_fail {y : Nat} (h : j < nr) (q : E x j = true) (k : tak lev dep lv t j = true) (z : t.2.2 j = some y) (w : (rec y (va_up t.1 j true, t.2.1, t.2.2)).1 = false) : fdr E lev dep rec x lv (nr - j) j t = fdr E lev dep rec x lv (nr - (j + 1)) (j + 1) (rec y (va_up t.1 j true, t.2.1, t.2.2)).2 := by
  rw [show nr - j = (nr - (j + 1)) + 1 by omega, fdr, if_pos (by simp [q, k]), z]
  simp only
  generalize rec y (va_up t.1 j true, t.2.1, t.2.2) = v at w ⊢
  obtain ⟨a, b⟩ := v
  cases w
  rfl
theorem fdr_win {y : Nat} (h : j < nr) (q : E x j = true) (k : tak lev dep lv t j = true) (z : t.2.2 j = some y) (w : (rec y (va_up t.1 j true, t.2.1, t.2.2)).1 = true) : fdr E lev dep rec x lv (nr - j) j t = (true, ((rec y (va_up t.1 j true, t.2.1, t.2.2)).2.1, va_up (rec y (va_up t.1 j true, t.2.1, t.2.2)).2.2.1 x (some j), va_up (rec y (va_up t.1 j true, t.2.1, t.2.2)).2.2.2 j (some x))) := by
  rw [show nr - j = (nr - (j + 1)) + 1 by omega, fdr, if_pos (by simp [q, k]), z]
  simp only
  generalize rec y (va_up t.1 j true, t.2.1, t.2.2) = v at w ⊢
  obtain ⟨a, b⟩ := v
  cases w
  rfl
end FDR
theorem up_bd2 {f : Nat → Option Nat} {b x y : Nat} (h : ∀ k v, f k = some v → v < b) (hy : y < b) : ∀ k v, va_up f x (some y) k = some v → v < b := up_bd h hy
theorem fdr_bd {E : Nat → Nat → Bool} {lev : Nat → Option Nat} {dep nl : Nat} {rec : Nat → SG → Bool × SG} {x lv : Nat} (hx : x < nl) (hrec : ∀ y t, (∀ r z, t.2.2 r = some z → z < nl) → y < nl → ∀ r z, (rec y t).2.2.2 r = some z → z < nl) :
    ∀ (n j : Nat) (t : SG), (∀ r z, t.2.2 r = some z → z < nl) → ∀ r z, (fdr E lev dep rec x lv n j t).2.2.2 r = some z → z < nl
  | 0, j, t, h => h
  | n + 1, j, t, h => by
    rw [fdr]
    by_cases q : (E x j && tak lev dep lv t j) = true
    · rw [if_pos q]
      cases k : t.2.2 j with
      | none => exact up_bd h hx
      | some y =>
        simp only
        have h2 := hrec y (va_up t.1 j true, t.2.1, t.2.2) h (h j y k)
        generalize rec y (va_up t.1 j true, t.2.1, t.2.2) = v at h2 ⊢
        obtain ⟨a, b⟩ := v
        cases a with
        | true => exact up_bd h2 hx
        | false => exact fdr_bd hx hrec n (j + 1) b h2
    · rw [if_neg q]
      exact fdr_bd hx hrec n (j + 1) t h
theorem fdp_bd {E : Nat → Nat → Bool} {lev : Nat → Option Nat} {dep nr nl : Nat} : ∀ {f x : Nat} {t : SG}, (∀ r z, t.2.2 r = some z → z < nl) → x < nl → ∀ r z, (fdp E lev dep nr f x t).2.2.2 r = some z → z < nl
  | 0, x, t, h, _ => h
  | f + 1, x, t, h, hx => fdr_bd hx (fun y t ht hy => fdp_bd ht hy) nr 0 t h
