/-! the reference's phases, in words -/
theorem lv0_a {nl i : Nat} {bL : Nat → Option Nat} (hi : i < nl) (h : bL i = none) : some 0 = lv0 nl bL i := by
  unfold lv0
  rw [if_pos hi, h]
  rfl
theorem lv0_b {nl i v : Nat} {bL : Nat → Option Nat} (hi : i < nl) (h : bL i = some v) : none = lv0 nl bL i := by
  unfold lv0
  rw [if_pos hi, h]
  rfl
theorem lpt_keep {E : Nat → Nat → Bool} {bR : Nat → Option Nat} {x d1 j z y : Nat} {lev : Nat → Option Nat} (h : lev z = some y) : lpt E bR x d1 lev j z = some y := by
  unfold lpt
  rw [h]
theorem lpt_at0 {E : Nat → Nat → Bool} {bR : Nat → Option Nat} {x d1 z : Nat} {lev : Nat → Option Nat} : lpt E bR x d1 lev 0 z = lev z := by
  unfold lpt
  cases lev z <;> rfl
theorem lp_end {E : Nat → Nat → Bool} {bR : Nat → Option Nat} {nr d i j nl : Nat} {lev1 L : Nat → Option Nat} (hi : i < nl) (hl : ∀ z, z < nl → lev1 z = lvp E bR nr d L i z) (hz : j = 0 ∨ lev1 i = some d) (ho : j = nr ∨ ¬ lpt E bR i (d + 1) lev1 j i = some d) : ∀ z, z < nl → lpt E bR i (d + 1) lev1 j z = lvp E bR nr d L (i + 1) z := by
  intro z hzn
  by_cases q : lev1 i = some d
  · have e : j = nr := by
      rcases ho with h | h
      · exact h
      · exact absurd (lpt_keep q) h
    subst e
    exact lvp_yes ((lvp_at i).mp ((hl i hi).symm.trans q)) (hl z hzn)
  · have e : j = 0 := by
      rcases hz with h | h
      · exact h
      · exact absurd h q
    subst e
    rw [lpt_at0, hl z hzn]
    exact lvp_no (fun h => q ((hl i hi).trans ((lvp_at i).mpr h))) z
theorem lp_at {E : Nat → Nat → Bool} {bR : Nat → Option Nat} {d i j : Nat} {lev1 : Nat → Option Nat} (hz : j = 0 ∨ lev1 i = some d) (h : lpt E bR i (d + 1) lev1 j i = some d) : lev1 i = some d := by
  rcases hz with e | e
  · subst e; rw [lpt_at0] at h; exact h
  · exact e
theorem lvs_stab {E : Nat → Nat → Bool} {bL bR : Nat → Option Nat} {nl nr : Nat} (hb2 : ∀ r z, bR r = some z → z < nl) : ∀ k z, lvs E bL bR nl nr (nl + k) z = lvs E bL bR nl nr nl z
  | 0, z => rfl
  | k + 1, z => by
    rw [← lvs_stab hb2 k z]
    show lvp E bR nr (nl + k) (lvs E bL bR nl nr (nl + k)) nl z = _
    unfold lvp
    cases q : lvs E bL bR nl nr (nl + k) z with
    | some y => rfl
    | none =>
      simp only
      rw [if_neg]
      intro h
      obtain ⟨x, hx, h2⟩ := ex_iff.mp h
      rw [Bool.and_eq_true, beq_iff_eq] at h2
      have := lvs_lt hb2 h2.1
      omega
/-- the smaller level -/
def lst (a : Option Nat) (y : Nat) : Option Nat := match a with
  | none => some y
  | some z => if y < z then some y else some z
def ldi (a o : Option Nat) (b : Bool) : Option Nat := match o with
  | none => a
  | some y => if b then lst a y else a
def gfq (E : Nat → Nat → Bool) (nr : Nat) (bR : Nat → Option Nat) : Nat → Bool := fun x => ex nr (fun r => E x r && (bR r).isNone)
theorem ldp_ldi (lev : Nat → Option Nat) (g : Nat → Bool) (n : Nat) : ldp lev g (n + 1) = ldi (ldp lev g n) (lev n) (g n) := by
  rw [ldp]
  unfold ldi
  cases lev n with
  | none => rfl
  | some y =>
    simp only
    cases g n with
    | false => rfl
    | true =>
      simp only [if_true]
      unfold lst
      cases ldp lev g n <;> rfl
theorem ldi_false (a o : Option Nat) : ldi a o false = a := by
  unfold ldi
  cases o <;> rfl
theorem ldi_lst {a : Option Nat} {y : Nat} {b : Bool} : ldi a (some y) true = lst (ldi a (some y) b) y := by
  unfold ldi lst
  cases b with
  | false => rfl
  | true =>
    simp only [if_true]
    cases a with
    | none => simp
    | some z =>
      by_cases h : y < z
      · simp [h]
      · simp [h]
theorem ldi_up {a : Option Nat} {y : Nat} {b : Bool} {o : Option Nat} (ho : o = some y) (h : ldi a o b = none ∨ ∃ z, ldi a o b = some z ∧ y < z) : ldi a o true = some y := by
  subst ho
  rw [ldi_lst (b := b)]
  unfold lst
  rcases h with h | ⟨z, h, k⟩
  · rw [h]
  · rw [h]; simp [k]
theorem ldi_stay {a : Option Nat} {y z : Nat} {b : Bool} {o : Option Nat} (ho : o = some y) (h : ldi a o b = some z) (k : ¬ y < z) : ldi a o true = some z := by
  subst ho
  rw [ldi_lst (b := b)]
  unfold lst
  rw [h]
  simp [k]
theorem gfq_gfr {E : Nat → Nat → Bool} {nr : Nat} {bR : Nat → Option Nat} (h : nr ≤ 12) : gfq E nr bR = gfr E nr bR := by
  funext x
  unfold gfq gfr
  rw [Bool.eq_iff_iff, ex_iff, ex_iff]
  constructor
  · rintro ⟨r, hr, q⟩
    refine ⟨r, by omega, ?_⟩
    rw [Bool.and_eq_true] at q ⊢
    unfold fre
    simp [q.1, q.2, hr]
  · rintro ⟨r, hr, q⟩
    unfold fre at q
    simp only [Bool.and_eq_true, decide_eq_true_eq] at q
    exact ⟨r, q.2.1, by simp [q.1, q.2.2]⟩
/-- the number before -/
def prd : Nat → Option Nat
  | 0 => none
  | n + 1 => some n
theorem prd_inc {k v : Nat} (h : v = k) : nI v = oI (prd (k + 1)) := by subst h; rfl
theorem prd_dec {v : Nat} : nI v + Int32.ofInt (-1) = oI (prd v) := by
  cases v with
  | zero => rfl
  | succ k =>
    show nI (k + 1) + (-1) = nI k
    rw [← nI_1, Int32.add_assoc]
    exact Int32.add_zero _
theorem prd_cons {L : List (Nat × Nat)} {v : Nat} (h : prd L.length = some v) : ∃ x j L9, L = (x, j) :: L9 ∧ v = L9.length := by
  cases L with
  | nil => cases h
  | cons q L9 =>
    obtain ⟨x, j⟩ := q
    exact ⟨x, j, L9, rfl, (Option.some.inj h).symm⟩
theorem prd_nil {L : List (Nat × Nat)} (h : prd L.length = none) : L = [] := by
  cases L with
  | nil => rfl
  | cons q L9 => cases h
/-- the frames that wait: each left node with the next right node that it looks at -/
def FRM (lev : Nat → Option Nat) (nl nr : Nat) (rw ty : Nat → Nat) : List (Nat × Nat) → Prop
  | [] => True
  | q :: L => (rw L.length = q.1 ∧ ty q.1 = q.2 ∧ lev q.1 = some L.length ∧ q.1 < nl ∧ q.2 ≤ nr) ∧ FRM lev nl nr rw ty L ∧ ∀ w ∈ L, 1 ≤ w.2
theorem FRM.rw {lev : Nat → Option Nat} {nl nr : Nat} {rw ty : Nat → Nat} {i y : Nat} : ∀ {L : List (Nat × Nat)}, FRM lev nl nr rw ty L → L.length ≤ i → FRM lev nl nr (va_up rw i y) ty L
  | [], _, _ => trivial
  | q :: L, h, hi => by
    obtain ⟨⟨a, b⟩, c, d⟩ := h
    have hi : L.length + 1 ≤ i := hi
    refine ⟨⟨?_, b⟩, FRM.rw c (by omega), d⟩
    unfold va_up
    rw [if_neg (by omega)]
    exact a
theorem FRM.ty {lev : Nat → Option Nat} {nl nr : Nat} {rw ty : Nat → Nat} {x k v : Nat} (hx : lev x = some k) : ∀ {L : List (Nat × Nat)}, FRM lev nl nr rw ty L → L.length ≤ k → FRM lev nl nr rw (va_up ty x v) L
  | [], _, _ => trivial
  | q :: L, h, hk => by
    obtain ⟨⟨a, b, c, d⟩, e, f⟩ := h
    have hk : L.length + 1 ≤ k := hk
    refine ⟨⟨a, ?_, c, d⟩, FRM.ty hx e (by omega), f⟩
    unfold va_up
    rw [if_neg]
    · exact b
    · intro q2
      rw [q2, hx] at c
      have := Option.some.inj c
      omega
section KK
variable (E : Nat → Nat → Bool) (lev : Nat → Option Nat) (dep nr : Nat)
/-- what the waiting frames make of an answer -/
def KK : List (Nat × Nat) → Bool × SG → Bool × SG
  | [], r => r
  | (x, j) :: L, (true, t) => KK L (true, (t.1, va_up t.2.1 x (some (j - 1)), va_up t.2.2 (j - 1) (some x)))
  | (x, j) :: L, (false, t) => KK L (fdr E lev dep (fdp E lev dep nr (dep - L.length)) x L.length (nr - j) j t)
variable {E lev dep nr}
theorem kk_pop {x : Nat} {L : List (Nat × Nat)} {t : SG} : KK E lev dep nr ((x, nr) :: L) (false, t) = KK E lev dep nr L (false, t) := by
  rw [KK, Nat.sub_self, fdr]
theorem kk_skip {x j : Nat} {L : List (Nat × Nat)} {t : SG} (h : j < nr) (q : E x j = false ∨ tak lev dep L.length t j = false) : KK E lev dep nr ((x, j) :: L) (false, t) = KK E lev dep nr ((x, j + 1) :: L) (false, t) := by
  rw [KK, KK, fdr_no h q]
theorem kk_found {x j : Nat} {L : List (Nat × Nat)} {t : SG} (h : j < nr) (q : E x j = true) (k : t.1 j = false) (z : t.2.2 j = none) (d : L.length = dep) : KK E lev dep nr ((x, j) :: L) (false, t) = KK E lev dep nr ((x, j + 1) :: L) (true, (va_up t.1 j true, t.2.1, t.2.2)) := by
  rw [KK, KK, fdr_free h q (by unfold tak tkb; rw [k, z]; simp [d]) z]
  rfl
theorem kk_push {x j y : Nat} {L : List (Nat × Nat)} {t : SG} (h : j < nr) (q : E x j = true) (k : t.1 j = false) (z : t.2.2 j = some y) (d : L.length < dep) (hy : lev y = some (L.length + 1)) : KK E lev dep nr ((x, j) :: L) (false, t) = KK E lev dep nr ((y, 0) :: (x, j + 1) :: L) (false, (va_up t.1 j true, t.2.1, t.2.2)) := by
  have hk : tak lev dep L.length t j = true := by unfold tak tkb; rw [k, z]; simp [d, hy]
  have e : fdr E lev dep (fdp E lev dep nr (dep - (L.length + 1))) y (L.length + 1) (nr - 0) 0 (va_up t.1 j true, t.2.1, t.2.2) = fdp E lev dep nr (dep - L.length) y (va_up t.1 j true, t.2.1, t.2.2) := by
    rw [show dep - L.length = (dep - (L.length + 1)) + 1 by omega, fdp, show dep - (dep - (L.length + 1)) = L.length + 1 by omega]
    rfl
  show _ = KK E lev dep nr ((x, j + 1) :: L) (fdr E lev dep (fdp E lev dep nr (dep - ((x, j + 1) :: L).length)) y ((x, j + 1) :: L).length (nr - 0) 0 (va_up t.1 j true, t.2.1, t.2.2))
  rw [show ((x, j + 1) :: L).length = L.length + 1 from rfl, e, KK]
  cases w : (fdp E lev dep nr (dep - L.length) y (va_up t.1 j true, t.2.1, t.2.2)).1 with
  | true =>
    rw [fdr_win h q hk z w]
    generalize fdp E lev dep nr (dep - L.length) y (va_up t.1 j true, t.2.1, t.2.2) = v at w ⊢
    obtain ⟨a, b⟩ := v
    have w : a = true := w
    subst w
    rw [KK]
    rfl
  | false =>
    rw [fdr_fail h q hk z w]
    generalize fdp E lev dep nr (dep - L.length) y (va_up t.1 j true, t.2.1, t.2.2) = v at w ⊢
    obtain ⟨a, b⟩ := v
    have w : a = false := w
    subst w
    rw [KK]
theorem kk_start {x : Nat} {t : SG} : KK E lev dep nr [(x, 0)] (false, t) = fdp E lev dep nr (dep + 1) x t := by
  rw [KK, KK, fdp]
  show fdr E lev dep (fdp E lev dep nr (dep - 0)) x 0 (nr - 0) 0 t = fdr E lev dep (fdp E lev dep nr dep) x (dep - dep) nr 0 t
  rw [Nat.sub_zero, Nat.sub_zero, Nat.sub_self]
end KK
def mes (nr : Nat) : List (Nat × Nat) → Nat
  | [] => 0
  | q :: L => (nr + 2 - q.2) + mes nr L
theorem cnt_flip {tk : Nat → Bool} {j : Nat} (h : tk j = false) : ∀ n, j < n → cnt n (fun r => !(va_up tk j true) r) + 1 = cnt n (fun r => !tk r)
  | 0, hn => absurd hn (Nat.not_lt_zero _)
  | n + 1, hn => by
    rw [cnt, cnt]
    by_cases e : n = j
    · subst e
      have e1 : cnt n (fun r => !(va_up tk n true) r) = cnt n (fun r => !tk r) := cnt_congr (fun i hi => by unfold va_up; rw [if_neg (by omega)])
      rw [e1]
      simp [va_up, h]
    · have ih := cnt_flip h n (by omega)
      have e2 : va_up tk j true n = tk n := by unfold va_up; rw [if_neg e]
      rw [e2]
      omega
theorem cnt_keep {tk : Nat → Bool} {j : Nat} (n : Nat) : cnt n (fun r => !(va_up tk j true) r) ≤ cnt n (fun r => !tk r) := by
  induction n with
  | zero => exact Nat.le_refl _
  | succ n ih =>
    rw [cnt, cnt]
    by_cases e : n = j
    · subst e
      have : va_up tk n true n = true := by unfold va_up; rw [if_pos rfl]
      rw [this]
      simp
      omega
    · have e2 : va_up tk j true n = tk n := by unfold va_up; rw [if_neg e]
      rw [e2]
      omega
theorem ldi_lt {a o : Option Nat} {b : Bool} {B v : Nat} (ha : ∀ v, a = some v → v < B) (ho : ∀ v, o = some v → v < B) (h : ldi a o b = some v) : v < B := by
  unfold ldi lst at h
  cases o with
  | none => exact ha v h
  | some y =>
    simp only at h
    cases b with
    | false => exact ha v h
    | true =>
      simp only [if_true] at h
      cases a with
      | none => exact ho v h
      | some z =>
        simp only at h
        by_cases q : y < z
        · rw [if_pos q] at h; exact ho v h
        · rw [if_neg q] at h; exact ha v h
theorem FRM_len {lev : Nat → Option Nat} {nl nr : Nat} {rw ty : Nat → Nat} {L : List (Nat × Nat)} (hlev : ∀ z v, z < nl → lev z = some v → v ≤ 13) (h : FRM lev nl nr rw ty L) : L.length ≤ 14 := by
  cases L with
  | nil => exact Nat.zero_le _
  | cons q L =>
    have := hlev _ _ h.1.2.2.2.1 h.1.2.2.1
    show L.length + 1 ≤ 14
    omega
theorem FRM_push {lev : Nat → Option Nat} {nl nr x j y v : Nat} {rw ty : Nat → Nat} {L : List (Nat × Nat)} (h : FRM lev nl nr rw ty ((x, j) :: L)) (hy : lev y = some (L.length + 1)) (hyl : y < nl) (hv : v = L.length) (hj : 1 ≤ j) : FRM lev nl nr (va_up rw (v + 1) y) (va_up ty y 0) ((y, 0) :: (x, j) :: L) := by
  subst hv
  refine ⟨⟨?_, ?_, hy, hyl, Nat.zero_le _⟩, FRM.ty (k := L.length + 1) hy (FRM.rw h (Nat.le_refl _)) (Nat.le_refl _), fun w hw => ?_⟩
  · show va_up rw (L.length + 1) y (L.length + 1) = y
    simp [va_up]
  · show va_up ty y 0 y = 0
    simp [va_up]
  · rcases List.mem_cons.mp hw with e | e
    · rw [e]; exact hj
    · exact h.2.2 w e
