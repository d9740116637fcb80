/-! the reference's leading, ways, covers: words -/
def up2 (R1 : Nat → Nat → Bool) (a b : Nat) (v : Bool) : Nat → Nat → Bool := fun x y => if x = a ∧ y = b then v else R1 x y
theorem tb_up2 {R1 : Nat → Nat → Bool} {x y kk : Nat} {v : Bool} (hy : y < 12) : va_up (tb R1) (12 * x + y) v kk = tb (up2 R1 x y v) kk := by
  unfold va_up tb up2
  by_cases h : kk = 12 * x + y
  · rw [if_pos h, if_pos (by omega)]
  · rw [if_neg h, if_neg (by omega)]
theorem tb_self (a : Nat → Bool) (kk : Nat) : a kk = tb (fun x y => a (12 * x + y)) kk := by
  unfold tb
  show a kk = a (12 * (kk / 12) + kk % 12)
  rw [Nat.div_add_mod]
theorem up2_at {R1 : Nat → Nat → Bool} {a b : Nat} {v : Bool} : up2 R1 a b v a b = v := by unfold up2; rw [if_pos ⟨rfl, rfl⟩]
theorem up2_ne {R1 : Nat → Nat → Bool} {a b x y : Nat} {v : Bool} (h : ¬ (x = a ∧ y = b)) : up2 R1 a b v x y = R1 x y := by unfold up2; rw [if_neg h]
theorem prt_1 {f h : Nat → Bool} {i : Nat} : prt f h i = 1 ↔ f i = false ∧ h i = false := by
  unfold prt
  cases f i <;> cases h i <;> decide
theorem pL_sqr {E : Nat → Nat → Bool} {mL mR : Nat → Option Nat} {nl nr i : Nat} (hi : i < nl) : sqr nl (LHl E mL mR nl) (RHl E mL mR nr) i = decide (pL E mL mR nl nr i = 1) := by
  unfold sqr pL
  rw [show decide (i < nl) = true from decide_eq_true hi, Bool.true_and, Bool.eq_iff_iff, decide_eq_true_eq, prt_1]
  cases LHl E mL mR nl i <;> cases RHl E mL mR nr i <;> simp
theorem sq_some {E : Nat → Nat → Bool} {mL mR : Nat → Option Nat} {nl nr i : Nat} (hi : i < nl) (h : pL E mL mR nl nr i = 1) : ∃ r, mL i = some r := by
  cases k : mL i with
  | some r => exact ⟨r, rfl⟩
  | none =>
    have a := (prt_1.mp h).1
    have b : LHl E mL mR nl i = true := itH_le (n := 0) (by omega) (fre_none hi k).symm
    rw [b] at a
    cases a
theorem ptn_mt {nl nr : Nat} {E : Nat → Nat → Bool} {mL mR : Nat → Option Nat} (hm : MT nl nr E mL mR) (hnr : nr ≤ 12) {f : Nat → Bool} {j r : Nat} (h : mL j = some r) : ptn mR f j = f r := by
  have hr := hm.1 j r h
  rw [Bool.eq_iff_iff]
  constructor
  · intro q
    obtain ⟨w, hw, q2⟩ := ex_iff.mp q
    rw [Bool.and_eq_true, beq_iff_eq] at q2
    have := hm.2 w j q2.2
    rw [h] at this
    cases this
    exact q2.1
  · intro q
    exact ptn_in (by omega) q hr.2.2.2
/-- one step of leading between two left nodes -/
theorem rd0_at {nl nr : Nat} {E : Nat → Nat → Bool} {mL mR : Nat → Option Nat} {i j : Nat} (hi : i < nl) (hj : j < nl) : rd0 E mR nl (LHl E mL mR nl) (RHl E mL mR nr) i j = (decide (pL E mL mR nl nr i = 1) && ((ptn mR (E i) j || decide (j = i)) && decide (pL E mL mR nl nr j = 1))) := by
  unfold rd0
  rw [pL_sqr hi, pL_sqr hj]
theorem wk_col (R1 : Nat → Nat → Bool) (k a : Nat) : wk R1 (k + 1) a k = wk R1 k a k := by
  show (wk R1 k a k || (wk R1 k a k && wk R1 k k k)) = wk R1 k a k
  cases wk R1 k a k <;> simp
theorem wk_row (R1 : Nat → Nat → Bool) (k b : Nat) : wk R1 (k + 1) k b = wk R1 k k b := by
  show (wk R1 k k b || (wk R1 k k k && wk R1 k k b)) = wk R1 k k b
  cases wk R1 k k b <;> simp
theorem wk_s (R1 : Nat → Nat → Bool) (k a b : Nat) : wk R1 (k + 1) a b = (wk R1 k a b || (wk R1 k a k && wk R1 k k b)) := rfl
theorem wk_le {R1 : Nat → Nat → Bool} {a b : Nat} (h : R1 a b = true) : ∀ n, wk R1 n a b = true
  | 0 => h
  | n + 1 => by rw [wk_s, wk_le h n]; rfl
theorem RC_self {E : Nat → Nat → Bool} {mL mR : Nat → Option Nat} {nl nr i : Nat} (hi : i < nl) (h : pL E mL mR nl nr i = 1) : RC E mL mR nl nr i i = true := by
  refine wk_le ?_ nl
  rw [rd0_at hi hi, h]
  simp
theorem lw_agree {p q : Nat → Bool} {n k : Nat} (hk : k < n) (hn : n ≤ 12) (h : ∀ z, z < n → p z = q z) (hp : p k = true) : lw 12 p = lw 12 q := by
  cases e : lw 12 p with
  | none =>
    exfalso
    have : ∃ v, lw 12 p = some v := by
      refine Classical.byContradiction fun c => ?_
      have z : ∀ i, i < 12 → p i = false := by
        intro i
        induction i using Nat.strongRecOn with
        | _ i ih =>
          intro hi
          cases pi : p i with
          | false => rfl
          | true => exact absurd ⟨i, lw_eq hi pi (fun j hj => ih j hj (by omega))⟩ c
      rw [z k (by omega)] at hp
      cases hp
    obtain ⟨v, hv⟩ := this
    rw [e] at hv
    cases hv
  | some v =>
    obtain ⟨a, b, c⟩ := lw_some e
    have hvk : v ≤ k := by
      rcases Nat.lt_or_ge k v with x | x
      · rw [c k x] at hp; cases hp
      · exact x
    exact (lw_eq a (by rw [← h v (by omega)]; exact b) (fun j hj => by rw [← h j (by omega)]; exact c j hj)).symm
theorem pop_dec1 : ∀ b, b < 64 → ∀ c, c < 64 → ¬ 64 * b + c = 0 → cnt 12 (fun z => ((64 * b + c) &&& (64 * b + c - 1)).testBit z) + 1 = cnt 12 (fun z => (64 * b + c).testBit z) := by decide +kernel
theorem pop_dec {r : Nat} (h : r < 4096) (h0 : ¬ r = 0) : cnt 12 (fun z => (r &&& (r - 1)).testBit z) + 1 = cnt 12 (fun z => r.testBit z) := by
  have e := pop_dec1 (r / 64) (by omega) (r % 64) (by omega)
  rw [show 64 * (r / 64) + r % 64 = r by omega] at e
  exact e h0
theorem pop_0 : cnt 12 (fun z => (0 : Nat).testBit z) = 0 := by decide
theorem hold_bit1 {a i : Nat} : ((a >>> i) &&& 1 = 1) = (a.testBit i = true) := by
  rw [Nat.testBit, Nat.and_comm]
  have h : 1 &&& (a >>> i) = 0 ∨ 1 &&& (a >>> i) = 1 := by
    have : 1 &&& (a >>> i) ≤ 1 := Nat.and_le_left
    omega
  rcases h with h | h <;> simp [h]
/-- the edges that a count of ways looks at -/
def cwE (E : Nat → Nat → Bool) (a b d : Option Nat) : Nat → Nat → Bool := fun l r => E l r && (!(a == some l) && (!(b == some r) && !(d == some (12 * l + r))))
/-- a set without one node -/
def clr (x r : Nat) : Nat := mk (fun z => x.testBit z && !decide (z = r))
theorem clr_n {x r : Nat} (hx : x < 4096) : nI x &&& (nI (2 ^ r) ^^^ (-1)) = nI (clr x r) := by
  have e : x = mk (fun z => x.testBit z) := eq_mk hx (fun _ _ => rfl)
  have h := nI_notbit (fun z => x.testBit z) (k := r)
  rw [← e] at h
  exact h
theorem clr_ne {x r : Nat} (h : x.testBit r = true) : ¬ clr x r = x := by
  intro e
  have h2 : (clr x r).testBit r = true := by rw [e]; exact h
  unfold clr at h2
  rw [mk_tb] at h2
  simp at h2
theorem clr_lt (x r : Nat) : clr x r < 4096 := mk_lt _
def sad (Wv : Nat → Nat) (f : Nat → Bool) (x : Nat) : Nat → Nat
  | 0 => Wv x
  | j + 1 => sad Wv f x j + (if x.testBit j && f j then Wv (clr x j) else 0)
def rdw (Wv : Nat → Nat) (f : Nat → Bool) (nr : Nat) : Nat → Nat → Nat
  | 0 => Wv
  | k + 1 => va_up (rdw Wv f nr k) (2 ^ nr - 1 - k) (sad (rdw Wv f nr k) f (2 ^ nr - 1 - k) nr)
def wyr (E : Nat → Nat → Bool) (nr : Nat) : Nat → Nat → Nat
  | 0 => fun x => if x = 0 then 1 else 0
  | l + 1 => rdw (wyr E nr l) (E l) nr (2 ^ nr - 1)
def mst (Wv : Nat → Nat) : Nat → Nat
  | 0 => 0
  | n + 1 => if 0 < Wv n ∧ mst Wv n < cnt 12 (fun z => n.testBit z) then cnt 12 (fun z => n.testBit z) else mst Wv n
theorem mst_le (Wv : Nat → Nat) : ∀ n, mst Wv n ≤ 12
  | 0 => by show 0 ≤ 12; omega
  | n + 1 => by
    rw [mst]
    split
    · exact cnt_le _ _
    · exact mst_le Wv n
theorem va_up2 {α : Type} (f : Nat → α) (i kk : Nat) (v w : α) : va_up (va_up f i v) i w kk = va_up f i w kk := by
  unfold va_up
  by_cases e : kk = i <;> simp [e]
/-- the right nodes beside a set of left nodes, counted -/
def nbc (E : Nat → Nat → Bool) (nl nr x : Nat) : Nat := cnt nr (fun r => ex nl (fun l => x.testBit l && E l r))
def nod (E : Nat → Nat → Bool) (nl nr x : Nat) : Nat := cnt 12 (fun z => x.testBit z) + nbc E nl nr (mk (fun z => decide (z < nl) && !x.testBit z))
def lcv (E : Nat → Nat → Bool) (nl nr : Nat) : Nat → Nat × Nat
  | 0 => (0, 24)
  | x + 1 => (if nod E nl nr x < (lcv E nl nr x).2 then 1 else if nod E nl nr x = (lcv E nl nr x).2 then (lcv E nl nr x).1 + 1 else (lcv E nl nr x).1, if nod E nl nr x < (lcv E nl nr x).2 then nod E nl nr x else (lcv E nl nr x).2)
theorem lcv_lt {E : Nat → Nat → Bool} {nl nr x : Nat} (h : nod E nl nr x < (lcv E nl nr x).2) : lcv E nl nr (x + 1) = (1, nod E nl nr x) := by rw [lcv, if_pos h, if_pos h]
theorem lcv_eq {E : Nat → Nat → Bool} {nl nr x : Nat} (h : nod E nl nr x = (lcv E nl nr x).2) : lcv E nl nr (x + 1) = ((lcv E nl nr x).1 + 1, (lcv E nl nr x).2) := by rw [lcv, if_neg (by omega), if_pos h, if_neg (by omega)]
theorem lcv_gt {E : Nat → Nat → Bool} {nl nr x : Nat} (h : (lcv E nl nr x).2 < nod E nl nr x) : lcv E nl nr (x + 1) = lcv E nl nr x := by rw [lcv, if_neg (by omega), if_neg (by omega), if_neg (by omega)]
theorem lcv_le (E : Nat → Nat → Bool) (nl nr : Nat) : ∀ x, (lcv E nl nr x).2 ≤ 24
  | 0 => Nat.le_refl _
  | x + 1 => by
    have ih := lcv_le E nl nr x
    rw [lcv]
    show (if _ then _ else _) ≤ 24
    split <;> omega
theorem lcv_n (E : Nat → Nat → Bool) (nl nr : Nat) : ∀ x, (lcv E nl nr x).1 ≤ x
  | 0 => Nat.le_refl _
  | x + 1 => by
    have ih := lcv_n E nl nr x
    rw [lcv]
    show (if _ then _ else _) ≤ x + 1
    split
    · omega
    · split
      · exact Nat.succ_le_succ ih
      · omega
theorem nod_le {E : Nat → Nat → Bool} {nl nr x : Nat} (h : nr ≤ 12) : nod E nl nr x ≤ 24 := by
  unfold nod nbc
  have a := cnt_le (fun z => x.testBit z) 12
  have b := cnt_le (fun r => ex nl (fun l => (mk (fun z => decide (z < nl) && !x.testBit z)).testBit l && E l r)) nr
  omega
def gex (E : Nat → Nat → Bool) (nl nr : Nat) : Nat → Nat
  | 0 => 0
  | x + 1 => if gex E nl nr x + nbc E nl nr x < cnt 12 (fun z => x.testBit z) then cnt 12 (fun z => x.testBit z) - nbc E nl nr x else gex E nl nr x
theorem gex_le (E : Nat → Nat → Bool) (nl nr : Nat) : ∀ x, gex E nl nr x ≤ 12
  | 0 => by show 0 ≤ 12; omega
  | x + 1 => by
    have ih := gex_le E nl nr x
    have := cnt_le (fun z => x.testBit z) 12
    rw [gex]
    split <;> omega
theorem cv_suble {a b g : Nat} (ha : a < 1000) (hb : b < 1000) (hg : g < 1000) : (nI a - nI b ≤ nI g) = (a ≤ g + b) := by
  have h : nI a - nI b ≤ nI g ↔ (a : Int) - b ≤ g := by
    rw [Int32.le_iff_toInt_le, Int32.toInt_sub, nI_toInt (by omega), nI_toInt (by omega), nI_toInt (by omega)]
    rw [Int.bmod_eq_of_le (by omega) (by omega)]
  rw [propext h]
  apply propext
  omega
theorem wk_put {R0 R1 : Nat → Nat → Bool} {nl k i j : Nat} {v : Bool} (hk : k < nl) (hi : i < nl) (hj : j < nl) (h : ∀ a b, a < nl → b < nl → R1 a b = wk R0 (if a < i ∨ (a = i ∧ b < j) then k + 1 else k) a b) (hv : v = (R1 i j || (R1 i k && R1 k j))) : ∀ a b, a < nl → b < nl → up2 R1 i j v a b = wk R0 (if a < i ∨ (a = i ∧ b < j + 1) then k + 1 else k) a b := by
  intro a b ha hb
  by_cases q : a = i ∧ b = j
  · obtain ⟨rfl, rfl⟩ := q
    rw [up2_at, hv, if_pos (Or.inr ⟨rfl, by omega⟩), wk_s]
    have e1 : R1 a b = wk R0 k a b := by rw [h a b ha hb, if_neg (by omega)]
    have e2 : R1 a k = wk R0 k a k := by
      rw [h a k ha hk]
      split
      · exact wk_col R0 k a
      · rfl
    have e3 : R1 k b = wk R0 k k b := by
      rw [h k b hk hb]
      split
      · exact wk_row R0 k b
      · rfl
    rw [e1, e2, e3]
  · rw [up2_ne q, h a b ha hb]
    refine congrArg (fun n => wk R0 n a b) ?_
    by_cases c : a < i ∨ (a = i ∧ b < j)
    · rw [if_pos c, if_pos (by omega)]
    · rw [if_neg c, if_neg (by omega)]
