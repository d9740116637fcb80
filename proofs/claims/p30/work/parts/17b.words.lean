/-! words of the class's own methods -/
theorem cnt_yes {n : Nat} {p : Nat → Bool} (h : p n = true) : cnt (n + 1) p = cnt n p + 1 := by rw [cnt, if_pos h]
theorem cnt_no {n : Nat} {p : Nat → Bool} (h : p n = false) : cnt (n + 1) p = cnt n p := by rw [cnt, if_neg (by rw [h]; decide)]; rfl
theorem cnt_congr {p q : Nat → Bool} : ∀ {n : Nat}, (∀ i, i < n → p i = q i) → cnt n p = cnt n q
  | 0, _ => rfl
  | n + 1, h => by rw [cnt, cnt, cnt_congr (fun i hi => h i (by omega)), h n (by omega)]
theorem cnt_mk (f : Nat → Bool) : cnt 12 (fun z => (mk f).testBit z) = cnt 12 f := cnt_congr (fun i hi => mk_tb' f hi)
/-- how many left nodes two matchings treat otherwise -/
def dif (nl : Nat) (f g : Nat → Option Nat) : Nat := cnt nl (fun z => !(f z == g z))
theorem dif_yes {n : Nat} {f g : Nat → Option Nat} (h : ¬ f n = g n) : dif n f g + 1 = dif (n + 1) f g := (cnt_yes (p := fun z => !(f z == g z)) (by simpa using h)).symm
theorem dif_no {n : Nat} {f g : Nat → Option Nat} (h : f n = g n) : dif n f g = dif (n + 1) f g := (cnt_no (p := fun z => !(f z == g z)) (by simpa using h)).symm
/-- the covers of at most a size: each left node from l on is chosen or not -/
def cvr (E : Nat → Nat → Bool) (nl mo : Nat) : Nat → Nat → Nat → (Nat → Bool) → Nat
  | 0, _, _, _ => 0
  | f + 1, l, c, nd => if mo < c + cnt 12 nd then 0 else if nl ≤ l then 1 else cvr E nl mo f (l + 1) (c + 1) nd + cvr E nl mo f (l + 1) c (fun z => nd z || E l z)
def RC (E : Nat → Nat → Bool) (mL mR : Nat → Option Nat) (nl nr : Nat) : Nat → Nat → Bool := wk (rd0 E mR nl (LHl E mL mR nl) (RHl E mL mR nr)) nl
abbrev prt (f h : Nat → Bool) (i : Nat) : Nat := if f i then 0 else if h i then 2 else 1
theorem prt_lt (f h : Nat → Bool) (i : Nat) : prt f h i < 2 ^ 31 := by
  unfold prt
  cases f i <;> cases h i <;> decide
theorem prt_0 {f h : Nat → Bool} {i : Nat} : prt f h i = 0 ↔ f i = true := by
  unfold prt
  cases f i <;> cases h i <;> decide
def pL (E : Nat → Nat → Bool) (mL mR : Nat → Option Nat) (nl nr i : Nat) : Nat := prt (LHl E mL mR nl) (RHl E mL mR nr) i
def pR (E : Nat → Nat → Bool) (mL mR : Nat → Option Nat) (nl nr i : Nat) : Nat := prt (LHr E mL mR nl) (RHr E mL mR nr) i
theorem wk_in {R : Nat → Nat → Bool} {nl : Nat} (h : ∀ a z, R a z = true → z < nl) : ∀ n a z, wk R n a z = true → z < nl
  | 0, a, z, k => h a z k
  | n + 1, a, z, k => by
    rw [wk, Bool.or_eq_true, Bool.and_eq_true] at k
    rcases k with k | k
    · exact wk_in h n a z k
    · exact wk_in h n n z k.2
theorem RC_in {E : Nat → Nat → Bool} {mL mR : Nat → Option Nat} {nl nr a z : Nat} (h : RC E mL mR nl nr a z = true) : z < nl := by
  refine wk_in (fun a z k => ?_) nl a z h
  unfold rd0 sqr at k
  simp only [Bool.and_eq_true, decide_eq_true_eq] at k
  exact k.2.2.1
theorem RC_fs {E : Nat → Nat → Bool} {mL mR : Nat → Option Nat} {nl nr x z : Nat} {r0 : Nat → Nat → Bool} (hx : x < nl) : ((if x < nl then RC E mL mR nl nr x else r0 x) z && (if z < nl then RC E mL mR nl nr z else r0 z) x) = (RC E mL mR nl nr x z && RC E mL mR nl nr z x) := by
  rw [if_pos hx]
  by_cases h : RC E mL mR nl nr x z = true
  · rw [if_pos (RC_in h)]
  · have : RC E mL mR nl nr x z = false := by simpa using h
    simp [this]
theorem RC_wfp {E : Nat → Nat → Bool} {mL mR : Nat → Option Nat} {nl nr x : Nat} {o : Option Nat} {r0 : Nat → Nat → Bool} (hx : x < nl) : wfp (fun z => if z < nl then RC E mL mR nl nr z else r0 z) x o = wfp (RC E mL mR nl nr) x o := by
  cases o with
  | none => rfl
  | some y => exact RC_fs hx
/-- the fine part of a left node -/
def fns (E : Nat → Nat → Bool) (mL mR : Nat → Option Nat) (nl nr x : Nat) : Nat → Bool := fun z => RC E mL mR nl nr x z && RC E mL mR nl nr z x
def iSm (E : Nat → Nat → Bool) (mL mR : Nat → Option Nat) (nl nr i j : Nat) : Bool := decide (pL E mL mR nl nr i = pR E mL mR nl nr j) && (!decide (pL E mL mR nl nr i = 1) || wfp (RC E mL mR nl nr) i (mR j))
def iAl (E : Nat → Nat → Bool) (mL mR : Nat → Option Nat) (nl nr i j : Nat) : Bool := (mL i == some j) && (decide (pL E mL mR nl nr i = 1) && decide (mk (fns E mL mR nl nr i) = 2 ^ i))
/-- the square's nodes that are lowest in their fine part -/
def fpt (E : Nat → Nat → Bool) (mL mR : Nat → Option Nat) (nl nr n : Nat) : Nat := cnt n (fun x => decide (pL E mL mR nl nr x = 1) && (lw 12 (fns E mL mR nl nr x) == some x))
theorem lw_congr {p q : Nat → Bool} : ∀ {n : Nat}, (∀ i, i < n → p i = q i) → lw n p = lw n q
  | 0, _ => rfl
  | n + 1, h => by rw [lw, lw, lw_congr (fun i hi => h i (by omega)), h n (by omega)]
theorem lw_mk (f : Nat → Bool) : lw 12 (fun z => (mk f).testBit z) = lw 12 f := lw_congr (fun i hi => mk_tb' f hi)
theorem lw_lt {n v : Nat} {p : Nat → Bool} (h : lw n p = some v) : v < n := (lw_some h).1
def adE (E : Nat → Nat → Bool) (x y : Nat) : Nat → Nat → Bool := fun a b => E a b || (decide (a = x) && decide (b = y))
def rmE (E : Nat → Nat → Bool) (x y : Nat) : Nat → Nat → Bool := fun a b => E a b && !(decide (a = x) && decide (b = y))
theorem ad_1 (E : Nat → Nat → Bool) (x y a : Nat) : va_up E x (fun z => E x z || decide (z = y)) a = adE E x y a := by
  funext b
  unfold va_up adE
  by_cases h : a = x
  · subst h; simp
  · simp [h]
theorem ad_2 (E : Nat → Nat → Bool) (x y a : Nat) : va_up (tr E) y (fun z => tr E y z || decide (z = x)) a = tr (adE E x y) a := by
  funext b
  unfold va_up tr adE
  by_cases h : a = y
  · subst h; simp
  · simp [h]
theorem rm_1 (E : Nat → Nat → Bool) (x y a : Nat) : va_up E x (fun z => E x z && !(2 ^ y).testBit z) a = rmE E x y a := by
  funext b
  unfold va_up rmE
  by_cases h : a = x
  · subst h
    by_cases q : b = y
    · subst q; simp [Nat.testBit_two_pow]
    · have q2 : ¬ y = b := fun e => q e.symm
      simp [Nat.testBit_two_pow, q, q2]
  · simp [h]
theorem rm_2 (E : Nat → Nat → Bool) (x y a : Nat) : va_up (tr E) y (fun z => tr E y z && !(2 ^ x).testBit z) a = tr (rmE E x y) a := by
  funext b
  unfold va_up tr rmE
  by_cases h : a = y
  · subst h
    by_cases q : b = x
    · subst q; simp [Nat.testBit_two_pow]
    · have q2 : ¬ x = b := fun e => q e.symm
      simp [Nat.testBit_two_pow, q, q2]
  · simp [h]
theorem MT.bdL {nl nr : Nat} {E : Nat → Nat → Bool} {mL mR : Nat → Option Nat} (h : MT nl nr E mL mR) (hn : nr ≤ 12) : ∀ k v, mL k = some v → v < 12 := fun k v q => by have := (h.1 k v q).2.1; omega
theorem MT.bdR {nl nr : Nat} {E : Nat → Nat → Bool} {mL mR : Nat → Option Nat} (h : MT nl nr E mL mR) (hn : nl ≤ 12) : ∀ k v, mR k = some v → v < 12 := fun k v q => by have := (h.r q).1; omega
theorem MT.add {nl nr x y : Nat} {E : Nat → Nat → Bool} {mL mR : Nat → Option Nat} (h : MT nl nr E mL mR) : MT nl nr (adE E x y) mL mR :=
  ⟨fun l r q => by obtain ⟨a, b, c, d⟩ := h.1 l r q; exact ⟨a, b, by unfold adE; rw [c]; rfl, d⟩, h.2⟩
theorem MT.cut {nl nr x y : Nat} {E : Nat → Nat → Bool} {mL mR : Nat → Option Nat} (h : MT nl nr E mL mR) (hxy : mL x = some y) : MT nl nr (rmE E x y) (va_up mL x none) (va_up mR y none) := by
  have hk := (h.1 x y hxy).2.2.2
  constructor
  · intro l r q
    unfold va_up at q
    by_cases e : l = x
    · rw [if_pos e] at q; cases q
    · rw [if_neg e] at q
      obtain ⟨a, b, c, d⟩ := h.1 l r q
      refine ⟨a, b, by unfold rmE; rw [c]; simp [e], ?_⟩
      unfold va_up
      rw [if_neg]
      · exact d
      · intro e2
        subst e2
        rw [d] at hk
        exact e (Option.some.inj hk)
  · intro r l q
    unfold va_up at q
    by_cases e : r = y
    · rw [if_pos e] at q; cases q
    · rw [if_neg e] at q
      have a := h.2 r l q
      unfold va_up
      rw [if_neg]
      · exact a
      · intro e2
        subst e2
        rw [a] at hxy
        exact e (Option.some.inj hxy)
theorem MT.keep {nl nr x y : Nat} {E : Nat → Nat → Bool} {mL mR : Nat → Option Nat} (h : MT nl nr E mL mR) (hxy : ¬ mL x = some y) : MT nl nr (rmE E x y) mL mR := by
  refine ⟨fun l r q => ?_, h.2⟩
  obtain ⟨a, b, c, d⟩ := h.1 l r q
  refine ⟨a, b, ?_, d⟩
  unfold rmE
  rw [c]
  by_cases e : l = x
  · subst e
    have : ¬ r = y := fun e2 => hxy (by rw [← e2]; exact q)
    simp [this]
  · simp [e]
def dcS (E : Nat → Nat → Bool) (mL mR : Nat → Option Nat) (nl nr i j : Nat) (qu : Nat → Nat) : Option Nat × TQ := srch (rmE E i j) (va_up mL i none) (va_up mR j none) nl nr qu
