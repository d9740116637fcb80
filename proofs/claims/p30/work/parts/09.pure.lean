/-! numbers, masks, bounded search: plain facts -/
theorem one_shl {k : Nat} (h : k < 31) : nI 1 <<< (nI k &&& 31) = nI (2 ^ k) := by
  have h1 := pk_shlN (n := 1) (nI k &&& 31) k (by
    have : ∀ n, n < 32 → ((nI n &&& 31).toBitVec.smod 32).toNat = n := by decide +kernel
    exact this k (by omega)) (by
    have : 2 ^ k < 2 ^ 31 := Nat.pow_lt_pow_right (by decide) h
    omega)
  rw [Nat.one_mul] at h1
  exact h1
theorem nI_shr {n k : Nat} (hn : n < 2 ^ 31) (hk : k < 32) : nI n >>> (nI k &&& 31) = nI (n >>> k) := by
  have h1 := pk_shrN hn (nI k &&& 31) k (by
    have : ∀ n, n < 32 → ((nI n &&& 31).toBitVec.smod 32).toNat = n := by decide +kernel
    exact this k hk)
  rw [h1, Nat.shiftRight_eq_div_pow]
theorem mkS_lt (f : Nat → Bool) : ∀ n, mkS f n < 2 ^ n
  | 0 => by simp [mkS]
  | n + 1 => by
    have h := mkS_lt f n
    have h2 : 2 ^ n < 2 ^ (n + 1) := Nat.pow_lt_pow_right (by decide) (by omega)
    rw [mkS]
    apply Nat.or_lt_two_pow
    · omega
    · by_cases q : f n = true
      · simp only [q, if_true]
        exact h2
      · simp only [q]
        exact Nat.two_pow_pos _
theorem mk_lt (f : Nat → Bool) : mk f < 4096 := mkS_lt f 12
theorem mkS_tb (f : Nat → Bool) : ∀ n i, (mkS f n).testBit i = (decide (i < n) && f i)
  | 0, i => by simp [mkS]
  | n + 1, i => by
    rw [mkS, Nat.testBit_or, mkS_tb f n i]
    by_cases q : i = n
    · subst q
      by_cases z : f i = true
      · simp [z, Nat.testBit_two_pow]
      · simp [z]
    · by_cases z : f n = true
      · simp only [z, if_true, Nat.testBit_two_pow]
        have : decide (n = i) = false := by simp; omega
        rw [this, Bool.or_false]
        congr 1
        simp
        omega
      · have : decide (i < n) = decide (i < n + 1) := by rw [decide_eq_decide]; omega
        simp [z, this]
theorem mk_tb (f : Nat → Bool) (i : Nat) : (mk f).testBit i = (decide (i < 12) && f i) := mkS_tb f 12 i
theorem mk_tb' (f : Nat → Bool) {i : Nat} (h : i < 12) : (mk f).testBit i = f i := by simp [mk_tb, h]
theorem eq_mk {a : Nat} {f : Nat → Bool} (h : a < 4096) (k : ∀ i, i < 12 → a.testBit i = f i) : a = mk f := by
  apply Nat.eq_of_testBit_eq
  intro i
  rw [mk_tb]
  by_cases q : i < 12
  · simp [q, k i q]
  · simp [q]
    exact Nat.testBit_lt_two_pow (Nat.lt_of_lt_of_le h (Nat.pow_le_pow_right (n := 2) (by decide) (i := 12) (by omega)))
theorem mk_congr {f g : Nat → Bool} (k : ∀ i, i < 12 → f i = g i) : mk f = mk g := eq_mk (mk_lt f) (fun i hi => by rw [mk_tb' f hi, k i hi])
theorem mk_or (f g : Nat → Bool) : mk f ||| mk g = mk (fun i => f i || g i) := eq_mk (Nat.or_lt_two_pow (n := 12) (mk_lt f) (mk_lt g)) (fun i hi => by rw [Nat.testBit_or, mk_tb' f hi, mk_tb' g hi])
theorem mk_and (f g : Nat → Bool) : mk f &&& mk g = mk (fun i => f i && g i) := eq_mk (Nat.lt_of_le_of_lt Nat.and_le_left (mk_lt f)) (fun i hi => by rw [Nat.testBit_and, mk_tb' f hi, mk_tb' g hi])
theorem mk_bit {k : Nat} (h : k < 12) : 2 ^ k = mk (fun i => decide (i = k)) := eq_mk (show 2 ^ k < 2 ^ 12 from Nat.pow_lt_pow_right (by decide) h) (fun i _ => by rw [Nat.testBit_two_pow]; exact decide_eq_decide.mpr ⟨fun q => q.symm, fun q => q.symm⟩)
theorem mk_or_bit (f : Nat → Bool) {k : Nat} (h : k < 12) : mk f ||| 2 ^ k = mk (fun i => f i || decide (i = k)) := by rw [mk_bit h, mk_or]
theorem mk_0 {f : Nat → Bool} (h : ∀ i, i < 12 → f i = false) : mk f = 0 := (eq_mk (by decide) (fun i hi => by rw [h i hi]; simp)).symm
theorem mk_eq0 {f : Nat → Bool} : mk f = 0 ↔ ∀ i, i < 12 → f i = false := ⟨fun h i hi => by rw [← mk_tb' f hi, h]; simp, mk_0⟩
theorem mk_inj {f g : Nat → Bool} (h : mk f = mk g) {i : Nat} (hi : i < 12) : f i = g i := by rw [← mk_tb' f hi, h, mk_tb' g hi]
/-- whether some number below n has it -/
def ex : Nat → (Nat → Bool) → Bool
  | 0, _ => false
  | n + 1, p => ex n p || p n
theorem ex_succ (n : Nat) (p : Nat → Bool) : ex (n + 1) p = (ex n p || p n) := rfl
theorem ex_iff {p : Nat → Bool} : ∀ {n : Nat}, ex n p = true ↔ ∃ i, i < n ∧ p i = true
  | 0 => by simp [ex]
  | n + 1 => by
    rw [ex, Bool.or_eq_true, ex_iff (n := n)]
    constructor
    · rintro (⟨i, h, k⟩ | h)
      · exact ⟨i, by omega, k⟩
      · exact ⟨n, by omega, h⟩
    · rintro ⟨i, h, k⟩
      by_cases q : i = n
      · subst q; exact Or.inr k
      · exact Or.inl ⟨i, by omega, k⟩
theorem ex_no {p : Nat → Bool} {n : Nat} : ex n p = false ↔ ∀ i, i < n → p i = false := by
  rw [← Bool.not_eq_true, ex_iff]
  constructor
  · intro h i hi
    by_cases q : p i = true
    · exact absurd ⟨i, hi, q⟩ h
    · simpa using q
  · rintro h ⟨i, hi, k⟩
    rw [h i hi] at k
    cases k
theorem ex_congr {p q : Nat → Bool} {n : Nat} (h : ∀ i, i < n → p i = q i) : ex n p = ex n q := by
  induction n with
  | zero => rfl
  | succ n ih => rw [ex, ex, ih (fun i hi => h i (by omega)), h n (by omega)]
/-- the lowest number below n that has it -/
def lw : Nat → (Nat → Bool) → Option Nat
  | 0, _ => none
  | n + 1, p => match lw n p with
    | some k => some k
    | none => if p n then some n else none
/-- how many numbers below n have it -/
def cnt : Nat → (Nat → Bool) → Nat
  | 0, _ => 0
  | n + 1, p => cnt n p + (if p n then 1 else 0)
theorem hold_bit {a i : Nat} : ((a >>> i) &&& 1 = 0) = (a.testBit i = false) := by
  rw [Nat.testBit, Nat.and_comm]
  simp
theorem and1_lt (a : Nat) : a &&& 1 < 2 ^ 31 := Nat.lt_of_le_of_lt Nat.and_le_right (by decide)
theorem lw_eq {p : Nat → Bool} : ∀ {n i : Nat}, i < n → p i = true → (∀ j, j < i → p j = false) → lw n p = some i
  | 0, i, h, _, _ => by omega
  | n + 1, i, h, k, z => by
    rw [lw]
    by_cases q : i < n
    · rw [lw_eq q k z]
    · have e : i = n := by omega
      subst e
      have : lw i p = none := by
        clear h k
        revert z
        suffices ∀ m, m ≤ i → (∀ j, j < i → p j = false) → lw m p = none from this i (Nat.le_refl _)
        intro m
        induction m with
        | zero => intro _ _; rfl
        | succ m ih =>
          intro hm z
          rw [lw, ih (by omega) z, z m (by omega)]
          rfl
      rw [this, k]
      rfl
theorem lw_none {p : Nat → Bool} : ∀ {n : Nat}, (∀ j, j < n → p j = false) → lw n p = none
  | 0, _ => rfl
  | n + 1, z => by rw [lw, lw_none (fun j h => z j (by omega)), z n (by omega)]; rfl
theorem lw_some {p : Nat → Bool} : ∀ {n i : Nat}, lw n p = some i → i < n ∧ p i = true ∧ ∀ j, j < i → p j = false
  | 0, i, h => by cases h
  | n + 1, i, h => by
    rw [lw] at h
    cases e : lw n p with
    | some k =>
      rw [e] at h
      cases h
      obtain ⟨a, b, c⟩ := lw_some e
      exact ⟨by omega, b, c⟩
    | none =>
      rw [e] at h
      have z : ∀ j, j < n → p j = false := by
        intro j hj
        cases q : p j with
        | false => rfl
        | true =>
          exfalso
          obtain ⟨k, hk⟩ : ∃ k, lw n p = some k := by
            clear h
            revert hj
            clear e
            induction n with
            | zero => intro hj; omega
            | succ n ih =>
              intro hj
              rw [lw]
              cases e2 : lw n p with
              | some k => exact ⟨k, rfl⟩
              | none =>
                by_cases jn : j < n
                · obtain ⟨k, hk⟩ := ih jn
                  rw [hk] at e2
                  cases e2
                · have : j = n := by omega
                  subst this
                  exact ⟨j, by simp [q]⟩
          rw [hk] at e
          cases e
      by_cases q : p n = true
      · rw [if_pos q] at h
        cases h
        exact ⟨by omega, q, z⟩
      · rw [if_neg q] at h
        cases h
/-- the right nodes beside a set of left nodes -/
def nbr (E : Nat → Nat → Bool) (f : Nat → Bool) : Nat → Bool := fun z => ex 12 (fun w => f w && E w z)
/-- the partners of a set -/
def ptn (p : Nat → Option Nat) (f : Nat → Bool) : Nat → Bool := fun z => ex 12 (fun w => f w && (p w == some z))
/-- a set of nodes, n rounds on -/
def itH (E : Nat → Nat → Bool) (p : Nat → Option Nat) (f : Nat → Bool) : Nat → Nat → Bool
  | 0 => f
  | n + 1 => fun z => itH E p f n z || ptn p (nbr E (itH E p f n)) z
/-- leading, over the first n nodes -/
def wk (R : Nat → Nat → Bool) : Nat → Nat → Nat → Bool
  | 0 => R
  | n + 1 => fun a b => wk R n a b || (wk R n a n && wk R n n b)
def popN (a : Nat) : Nat :=
  let v1 := a - ((a >>> 1) &&& 1431655765)
  let v2 := (v1 &&& 858993459) + ((v1 >>> 2) &&& 858993459)
  let v3 := (v2 + (v2 >>> 4)) &&& 252645135
  let v4 := v3 + (v3 >>> 8)
  let v5 := v4 + (v4 >>> 16)
  v5 &&& 63
theorem popN_eq1 : ∀ b, b < 64 → ∀ c, c < 64 → popN (64 * b + c) = cnt 12 (fun i => (64 * b + c).testBit i) := by decide +kernel
theorem popN_eq (a : Nat) (h : a < 4096) : popN a = cnt 12 (fun i => a.testBit i) := by
  have e := popN_eq1 (a / 64) (by omega) (a % 64) (by omega)
  rw [show 64 * (a / 64) + a % 64 = a by omega] at e
  exact e
theorem nI_ushr {n k : Nat} (hn : n < 2 ^ 32) (hk : k < 32) : ((nI n).toUInt32 >>> ((nI k).toUInt32 &&& Int32.toUInt32 31)).toInt32 = nI (n >>> k) := by
  have h : ∀ k, k < 32 → (((nI k).toUInt32 &&& Int32.toUInt32 31).toBitVec % 32).toNat = k := by decide +kernel
  rw [pk_ushrN hn (nI k) k (h k hk), Nat.shiftRight_eq_div_pow]
theorem and_le_lt {a b c : Nat} (h : b < c) : a &&& b < c := Nat.lt_of_le_of_lt Nat.and_le_right h
theorem shr_le (a k : Nat) : a >>> k ≤ a := by rw [Nat.shiftRight_eq_div_pow]; exact Nat.div_le_self _ _
theorem mask_n : ∀ n, n < 13 → 2 ^ n - 1 = mk (fun i => decide (i < n)) := by decide +kernel
theorem nI_not (a : Nat) (f : Nat → Bool) : nI (mk f) &&& (nI a ^^^ (-1)) = nI (mk (fun i => f i && !a.testBit i)) := by
  have e : nI a ^^^ (-1) = ~~~ nI a := by
    apply Int32.toBitVec_inj.1
    show BitVec.ofNat 32 a ^^^ (-1 : Int32).toBitVec = ~~~ BitVec.ofNat 32 a
    rw [show (-1 : Int32).toBitVec = BitVec.allOnes 32 from by decide, BitVec.xor_allOnes]
  rw [e]
  apply Int32.toBitVec_inj.1
  show BitVec.ofNat 32 (mk f) &&& ~~~ BitVec.ofNat 32 a = BitVec.ofNat 32 (mk (fun i => f i && !a.testBit i))
  apply BitVec.eq_of_getLsbD_eq
  intro i hi
  simp only [BitVec.getLsbD_and, BitVec.getLsbD_not, BitVec.getLsbD_ofNat, hi, decide_true, Bool.true_and, mk_tb]
  cases decide (i < 12) <;> simp
theorem bset_put {z i : Nat} {b : Nat → Bool} (h : b i = true) : ((decide (z < i) && b z) || decide (z = i)) = (decide (z < i + 1) && b z) := by
  by_cases e : z = i
  · subst e; simp [h]
  · have : decide (z < i) = decide (z < i + 1) := by rw [decide_eq_decide]; omega
    simp [e, this]
theorem bset_skip {z i : Nat} {b : Nat → Bool} (h : b i = false) : (decide (z < i) && b z) = (decide (z < i + 1) && b z) := by
  by_cases e : z = i
  · subst e; simp [h]
  · have : decide (z < i) = decide (z < i + 1) := by rw [decide_eq_decide]; omega
    simp [this]
theorem cpy12 {f g : Nat → Int32} {j : Nat} (h : j < 12) : va_cpy f g (nI 0).toNatClampNeg (nI 0).toNatClampNeg (nI 12).toNatClampNeg j = f j := by
  have h0 : (nI 0).toNatClampNeg = 0 := by decide
  have h1 : (nI 12).toNatClampNeg = 12 := by decide
  rw [h0, h1, va_cpy, if_pos (by omega)]
  congr 1
  omega
/-- the edges seen from the other side -/
def tr (E : Nat → Nat → Bool) : Nat → Nat → Bool := fun x y => E y x
def sqr (nl : Nat) (f h : Nat → Bool) : Nat → Bool := fun z => decide (z < nl) && !(f z || h z)
def fre (n : Nat) (p : Nat → Option Nat) : Nat → Bool := fun z => decide (z < n) && (p z).isNone
/-- leading of one step, in the square part -/
def rd0 (E : Nat → Nat → Bool) (mR : Nat → Option Nat) (nl : Nat) (f h : Nat → Bool) : Nat → Nat → Bool := fun a z => sqr nl f h a && ((ptn mR (E a) z || decide (z = a)) && sqr nl f h z)
def LHl (E : Nat → Nat → Bool) (mL mR : Nat → Option Nat) (nl : Nat) : Nat → Bool := itH E mR (fre nl mL) 12
def LHr (E : Nat → Nat → Bool) (mL mR : Nat → Option Nat) (nl : Nat) : Nat → Bool := nbr E (itH E mR (fre nl mL) 11)
def RHr (E : Nat → Nat → Bool) (mL mR : Nat → Option Nat) (nr : Nat) : Nat → Bool := itH (tr E) mL (fre nr mR) 12
def RHl (E : Nat → Nat → Bool) (mL mR : Nat → Option Nat) (nr : Nat) : Nat → Bool := nbr (tr E) (itH (tr E) mL (fre nr mR) 11)
theorem wk_self (R : Nat → Nat → Bool) (i j nl : Nat) (r0 : Nat → Nat → Bool) (h : i < nl) (z : Nat) : (if i < j then wk R (i + 1) i else if i < nl then wk R i i else r0 i) z = wk R i i z := by
  by_cases q : i < j
  · rw [if_pos q]
    show (wk R i i z || (wk R i i i && wk R i i z)) = wk R i i z
    cases wk R i i z <;> simp
  · rw [if_neg q, if_pos h]
/-- whether another node is in the fine part of x -/
def wfp (R : Nat → Nat → Bool) (x : Nat) : Option Nat → Bool
  | none => false
  | some y => R x y && R y x
theorem up1 {α : Type} (F G : Nat → α) (i kk : Nat) {v : α} (hv : v = F i) : va_up (fun z => if z < i then F z else G z) i v kk = if kk < i + 1 then F kk else G kk := by
  unfold va_up
  by_cases e : kk = i
  · subst e; simp [hv]
  · have : (kk < i) = (kk < i + 1) := by apply propext; omega
    simp [e, this]
theorem up1b {α : Type} (F G : Nat → α) (i kk : Nat) {v w : α} (hv : v = F i) : va_up (va_up (fun z => if z < i then F z else G z) i w) i v kk = if kk < i + 1 then F kk else G kk := by
  rw [← up1 F G i kk hv]
  unfold va_up
  by_cases e : kk = i <;> simp [e]
theorem sk1 {α : Type} (F G : Nat → α) (i kk : Nat) (hv : G i = F i) : (if kk < i then F kk else G kk) = if kk < i + 1 then F kk else G kk := by
  by_cases e : kk = i
  · subst e; simp [hv]
  · have : (kk < i) = (kk < i + 1) := by apply propext; omega
    simp [this]
theorem up3 {α : Type} (F G K : Nat → α) (n i kk : Nat) {v : α} (hv : v = F i) : va_up (fun z => if z < i then F z else if z < n then G z else K z) i v kk = if kk < i + 1 then F kk else if kk < n then G kk else K kk := up1 F (fun z => if z < n then G z else K z) i kk hv
theorem sk3 {α : Type} (F G K : Nat → α) (n i kk : Nat) (hi : i < n) (hv : G i = F i) : (if kk < i then F kk else if kk < n then G kk else K kk) = if kk < i + 1 then F kk else if kk < n then G kk else K kk := sk1 F (fun z => if z < n then G z else K z) i kk (by simp [hi, hv])
theorem end3 {α : Type} (F G K : Nat → α) (n kk : Nat) : (if kk < n then F kk else if kk < n then G kk else K kk) = if kk < n then F kk else K kk := by
  by_cases e : kk < n <;> simp [e]
theorem rd0_no {E : Nat → Nat → Bool} {mR : Nat → Option Nat} {nl : Nat} {f h : Nat → Bool} {i : Nat} (q : sqr nl f h i = false) : (fun _ => false) = rd0 E mR nl f h i := by
  funext z
  simp [rd0, q]
theorem rd0_yes {E : Nat → Nat → Bool} {mR : Nat → Option Nat} {nl : Nat} {f h : Nat → Bool} {i : Nat} (q : sqr nl f h i = true) : (fun z => (ptn mR (E i) z || decide (z = i)) && sqr nl f h z) = rd0 E mR nl f h i := by
  funext z
  simp [rd0, q]
theorem wk_no {R : Nat → Nat → Bool} {i j : Nat} (q : wk R i j i = false) : wk R i j = wk R (i + 1) j := by
  funext z
  show _ = (wk R i j z || (wk R i j i && wk R i i z))
  simp [q]
theorem wk_yes {R : Nat → Nat → Bool} {i j : Nat} (q : wk R i j i = true) : (fun z => wk R i j z || wk R i i z) = wk R (i + 1) j := by
  funext z
  show _ = (wk R i j z || (wk R i j i && wk R i i z))
  simp [q]
