/-! comparisons of longs, the sets of right nodes and the ways to use them -/
theorem cv_lc0 {x y : Int64} : (lg_cmp x y = 0) = (x = y) := by
  unfold lg_cmp
  by_cases h1 : y < x
  · have h2 : ¬ x = y := fun e => by rw [e] at h1; exact absurd h1 (by rw [Int64.lt_iff_toInt_lt]; omega)
    simp [h1, h2]
  · by_cases h2 : x = y
    · simp [h2]
    · simp [h1, h2]
theorem cv_lcle {x y : Int64} : (lg_cmp x y ≤ 0) = (¬ y < x) := by
  unfold lg_cmp
  by_cases h1 : y < x
  · rw [if_pos h1]; exact propext ⟨fun h => absurd h (by decide), fun h => absurd h1 h⟩
  · rw [if_neg h1]
    by_cases h2 : x = y
    · rw [if_pos h2]; exact propext ⟨fun _ => h1, fun _ => by decide⟩
    · rw [if_neg h2]; exact propext ⟨fun _ => h1, fun _ => by decide⟩
theorem cv_o0lt {o : Option Nat} (ho : ∀ k, o = some k → k < 2 ^ 31) : (oI o < 0) = (o = none) := by
  cases o with
  | none => exact propext ⟨fun _ => rfl, fun _ => by decide⟩
  | some k => exact propext ⟨fun h => absurd h (by show ¬ nI k < 0; rw [cv_lt0 (ho k rfl)]; exact fun h => h), fun h => by cases h⟩
theorem cnt_le (p : Nat → Bool) : ∀ n, cnt n p ≤ n
  | 0 => Nat.le_refl _
  | n + 1 => by
    have := cnt_le p n
    rw [cnt]
    split <;> omega
theorem pow12 {n : Nat} (h : n ≤ 12) : 2 ^ n ≤ 4096 := Nat.pow_le_pow_right (n := 2) (by decide) h
theorem or_lt12 {u j : Nat} (hu : u < 4096) (hj : j < 12) : u ||| 2 ^ j < 4096 := Nat.or_lt_two_pow (n := 12) hu (Nat.pow_lt_pow_right (by decide) hj)
/-- the number k places from the top -/
def dn (M k : Nat) : Option Nat := if k < M then some (M - 1 - k) else none
theorem dn_some {M k v : Nat} (h : dn M k = some v) : k < M ∧ v = M - 1 - k := by
  unfold dn at h
  by_cases q : k < M
  · rw [if_pos q] at h; cases h; exact ⟨q, rfl⟩
  · rw [if_neg q] at h; cases h
theorem dn_none {M k : Nat} (h : dn M k = none) : M ≤ k := by
  unfold dn at h
  by_cases q : k < M
  · rw [if_pos q] at h; cases h
  · omega
theorem dn_0 {M : Nat} (h : 0 < M) : nI (M - 1) = oI (dn M 0) := by
  unfold dn
  rw [if_pos h]
  rfl
theorem dn_dec {M k v : Nat} (h : dn M k = some v) : nI v + Int32.ofInt (-1) = oI (dn M (k + 1)) := by
  obtain ⟨h1, rfl⟩ := dn_some h
  unfold dn
  by_cases q : k + 1 < M
  · rw [if_pos q]
    show _ = nI (M - 1 - (k + 1))
    rw [show M - 1 - k = (M - 1 - (k + 1)) + 1 by omega, ← nI_1]
    show nI _ + 1 + (-1) = nI _
    rw [Int32.add_assoc]
    exact Int32.add_zero _
  · rw [if_neg q, show M - 1 - k = 0 by omega]
    rfl
/-- one set's ways given on to the sets with one right node more -/
def spr (W : Nat → Nat) (u : Nat) (f : Nat → Bool) : Nat → Nat → Nat
  | 0 => W
  | j + 1 => if f j then va_up (spr W u f j) (u ||| 2 ^ j) (spr W u f j (u ||| 2 ^ j) + spr W u f j u) else spr W u f j
/-- the sets from the largest one down, k of them -/
def adw (W : Nat → Nat) (f : Nat → Bool) (nr : Nat) : Nat → Nat → Nat
  | 0 => W
  | k + 1 => spr (adw W f nr k) (2 ^ nr - 1 - k) (fun r => f r && !(2 ^ nr - 1 - k).testBit r) nr
def wys (E : Nat → Nat → Bool) (nr : Nat) : Nat → Nat → Nat
  | 0 => fun S => if S = 0 then 1 else 0
  | l + 1 => adw (wys E nr l) (E l) nr (2 ^ nr)
def swt (W : Nat → Nat) (p : Nat) : Nat → Nat
  | 0 => 0
  | n + 1 => swt W p n + (if cnt 12 (fun z => n.testBit z) = p then W n else 0)
theorem spr_zero {W : Nat → Nat} {u : Nat} {f : Nat → Bool} (h : lN (W u) = lN 0) (hf : ∀ r, f r = true → u.testBit r = false) : ∀ j S, lN (spr W u f j S) = lN (W S)
  | 0, S => rfl
  | j + 1, S => by
    have ih := spr_zero h hf j
    rw [spr]
    by_cases q : f j = true
    · rw [if_pos q]
      unfold va_up
      by_cases e : S = u ||| 2 ^ j
      · rw [if_pos e, e, ← lN_add, ih, ih, h]
        exact Int64.add_zero _
      · rw [if_neg e]; exact ih S
    · rw [if_neg q]; exact ih S
theorem spr_none {W : Nat → Nat} {u : Nat} {f : Nat → Bool} : ∀ {j : Nat}, (∀ r, r < j → f r = false) → spr W u f j = W
  | 0, _ => rfl
  | j + 1, h => by rw [spr, if_neg (by rw [h j (by omega)]; decide), spr_none (fun r hr => h r (by omega))]
theorem adw_none {W : Nat → Nat} {f : Nat → Bool} {nr : Nat} (h : ∀ r, r < nr → f r = false) : ∀ k, adw W f nr k = W
  | 0 => rfl
  | k + 1 => by rw [adw, adw_none h k, spr_none (fun r hr => by rw [h r hr]; rfl)]
