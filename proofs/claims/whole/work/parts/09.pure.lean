/-! numbers, masks, bounded search: plain facts -/
theorem one_shl {k : Nat} (h : k < 31) : nI 1 <<< (nI k &&& 31) = nI (2 ^ k) := by
  have h1 := pk_shlN (n := 1) (nI k &&& 31) k (by
    have : ∀ n, n < 32 → ((nI n &&& 31).toBitVec.smod 32).toNat = n := by decide +kernel
    exact this k (by omega)) (by
    have : 2 ^ k < 2 ^ 31 := Nat.pow_lt_pow_right (by decide) h
    omega)
  rw [Nat.one_mul] at h1
  exact h1
theorem nI_shr {n k : Nat} (hn : n < 2 ^ 31) (hk : k < 32) : nI n >>> (nI k &&& 31) = nI (n >>> k) := by
  have h1 := pk_shrN hn (nI k &&& 31) k (by
    have : ∀ n, n < 32 → ((nI n &&& 31).toBitVec.smod 32).toNat = n := by decide +kernel
    exact this k hk)
  rw [h1, Nat.shiftRight_eq_div_pow]
theorem mkS_lt (f : Nat → Bool) : ∀ n, mkS f n < 2 ^ n
  | 0 => by simp [mkS]
  | n + 1 => by
    have h := mkS_lt f n
    have h2 : 2 ^ n < 2 ^ (n + 1) := Nat.pow_lt_pow_right (by decide) (by omega)
    rw [mkS]
    apply Nat.or_lt_two_pow
    · omega
    · by_cases q : f n = true
      · simp [q]
      · simp [q]
theorem mk_lt (f : Nat → Bool) : mk f < 4096 := mkS_lt f 12
theorem mkS_tb (f : Nat → Bool) : ∀ n i, (mkS f n).testBit i = (decide (i < n) && f i)
  | 0, i => by simp [mkS]
  | n + 1, i => by
    rw [mkS, Nat.testBit_or, mkS_tb f n i]
    by_cases q : i = n
    · subst q
      by_cases z : f i = true
      · simp [z, Nat.testBit_two_pow]
      · simp [z]
    · by_cases z : f n = true
      · simp only [z, if_true, Nat.testBit_two_pow]
        have : decide (n = i) = false := by simp; omega
        rw [this, Bool.or_false]
        congr 1
        simp
        omega
      · simp only [z]
        simp
        intro _
        omega
theorem mk_tb (f : Nat → Bool) (i : Nat) : (mk f).testBit i = (decide (i < 12) && f i) := mkS_tb f 12 i
theorem mk_tb' (f : Nat → Bool) {i : Nat} (h : i < 12) : (mk f).testBit i = f i := by simp [mk_tb, h]
theorem eq_mk {a : Nat} {f : Nat → Bool} (h : a < 4096) (k : ∀ i, i < 12 → a.testBit i = f i) : a = mk f := by
  apply Nat.eq_of_testBit_eq
  intro i
  rw [mk_tb]
  by_cases q : i < 12
  · simp [q, k i q]
  · simp [q]
    exact Nat.testBit_lt_two_pow (Nat.lt_of_lt_of_le h (Nat.pow_le_pow_right (n := 2) (by decide) (i := 12) (by omega)))
theorem mk_congr {f g : Nat → Bool} (k : ∀ i, i < 12 → f i = g i) : mk f = mk g := eq_mk (mk_lt f) (fun i hi => by rw [mk_tb' f hi, k i hi])
theorem mk_or (f g : Nat → Bool) : mk f ||| mk g = mk (fun i => f i || g i) := eq_mk (Nat.or_lt_two_pow (n := 12) (mk_lt f) (mk_lt g)) (fun i hi => by rw [Nat.testBit_or, mk_tb' f hi, mk_tb' g hi])
theorem mk_and (f g : Nat → Bool) : mk f &&& mk g = mk (fun i => f i && g i) := eq_mk (Nat.lt_of_le_of_lt Nat.and_le_left (mk_lt f)) (fun i hi => by rw [Nat.testBit_and, mk_tb' f hi, mk_tb' g hi])
theorem mk_bit {k : Nat} (h : k < 12) : 2 ^ k = mk (fun i => decide (i = k)) := eq_mk (Nat.pow_lt_pow_right (n := 2) (m := 12) (by decide) h) (fun i _ => by rw [Nat.testBit_two_pow]; exact decide_eq_decide.mpr ⟨fun q => q.symm, fun q => q.symm⟩)
theorem mk_or_bit (f : Nat → Bool) {k : Nat} (h : k < 12) : mk f ||| 2 ^ k = mk (fun i => f i || decide (i = k)) := by rw [mk_bit h, mk_or]
theorem mk_0 {f : Nat → Bool} (h : ∀ i, i < 12 → f i = false) : mk f = 0 := (eq_mk (by decide) (fun i hi => by rw [h i hi]; simp)).symm
theorem mk_eq0 {f : Nat → Bool} : mk f = 0 ↔ ∀ i, i < 12 → f i = false := ⟨fun h i hi => by rw [← mk_tb' f hi, h]; simp, mk_0⟩
theorem mk_inj {f g : Nat → Bool} (h : mk f = mk g) {i : Nat} (hi : i < 12) : f i = g i := by rw [← mk_tb' f hi, h, mk_tb' g hi]
/-- whether some number below n has it -/
def ex : Nat → (Nat → Bool) → Bool
  | 0, _ => false
  | n + 1, p => ex n p || p n
theorem ex_succ (n : Nat) (p : Nat → Bool) : ex (n + 1) p = (ex n p || p n) := rfl
theorem ex_iff {p : Nat → Bool} : ∀ {n : Nat}, ex n p = true ↔ ∃ i, i < n ∧ p i = true
  | 0 => by simp [ex]
  | n + 1 => by
    rw [ex, Bool.or_eq_true, ex_iff (n := n)]
    constructor
    · rintro (⟨i, h, k⟩ | h)
      · exact ⟨i, by omega, k⟩
      · exact ⟨n, by omega, h⟩
    · rintro ⟨i, h, k⟩
      by_cases q : i = n
      · subst q; exact Or.inr k
      · exact Or.inl ⟨i, by omega, k⟩
theorem ex_no {p : Nat → Bool} {n : Nat} : ex n p = false ↔ ∀ i, i < n → p i = false := by
  rw [← Bool.not_eq_true, ex_iff]
  constructor
  · intro h i hi
    by_cases q : p i = true
    · exact absurd ⟨i, hi, q⟩ h
    · simpa using q
  · rintro h ⟨i, hi, k⟩
    rw [h i hi] at k
    cases k
theorem ex_congr {p q : Nat → Bool} {n : Nat} (h : ∀ i, i < n → p i = q i) : ex n p = ex n q := by
  induction n with
  | zero => rfl
  | succ n ih => rw [ex, ex, ih (fun i hi => h i (by omega)), h n (by omega)]
/-- the lowest number below n that has it -/
def lw : Nat → (Nat → Bool) → Option Nat
  | 0, _ => none
  | n + 1, p => match lw n p with
    | some k => some k
    | none => if p n then some n else none
/-- how many numbers below n have it -/
def cnt : Nat → (Nat → Bool) → Nat
  | 0, _ => 0
  | n + 1, p => cnt n p + (if p n then 1 else 0)
theorem hold_bit {a i : Nat} : ((a >>> i) &&& 1 = 0) = (a.testBit i = false) := by
  rw [Nat.testBit, Nat.and_comm]
  simp
theorem and1_lt (a : Nat) : a &&& 1 < 2 ^ 31 := Nat.lt_of_le_of_lt Nat.and_le_right (by decide)
