theorem lW_fill {i kk : Nat} {f : Nat → Int64} {w : Int64} (h : w = lN (if i = 0 then 1 else 0)) : vp_updL (fun z => if z < i then lN (if z = 0 then 1 else 0) else f z) i w kk = if kk < i + 1 then lN (if kk = 0 then 1 else 0) else f kk := by
  unfold vp_updL
  by_cases e : kk = i
  · subst e
    rw [if_pos rfl, if_pos (by omega), h]
  · have : (kk < i) = (kk < i + 1) := by apply propext; omega
    simp [e, this]
theorem va_upS {α : Type} (f : Nat → α) (i kk : Nat) {v : α} (h : v = f i) : va_up f i v kk = f kk := by
  unfold va_up
  by_cases e : kk = i
  · subst e; rw [if_pos rfl, h]
  · rw [if_neg e]
theorem cw_eq {a : Option Nat} {k : Nat} (h : some k = a) : (a == some k) = true := by subst h; simp
theorem cw_ne {a : Option Nat} {k : Nat} (h : ¬ some k = a) : (a == some k) = false := by
  cases a with
  | none => rfl
  | some v =>
    have : ¬ v = k := fun e => h (by rw [e])
    simpa using this
theorem sad_no {Wv : Nat → Nat} {f : Nat → Bool} {x j kk : Nat} (h : (x.testBit j && f j) = false) : va_up (va_up Wv x (sad Wv f x j)) x (sad Wv f x j) kk = va_up Wv x (sad Wv f x (j + 1)) kk := by
  rw [va_up2, sad, h]
  rfl
theorem sad_yes {Wv : Nat → Nat} {f : Nat → Bool} {x j kk : Nat} (h : (x.testBit j && f j) = true) : va_up (va_up Wv x (sad Wv f x j)) x (sad Wv f x j + Wv (clr x j)) kk = va_up Wv x (sad Wv f x (j + 1)) kk := by
  rw [va_up2, sad, h]
  rfl
theorem lN_pos {n : Nat} (h : n < 2 ^ 63) : (lN 0 < lN n) = (0 < n) := by
  apply propext
  show (Int64.ofNat 0 < Int64.ofNat n) ↔ _
  rw [Int64.lt_iff_toInt_lt, lg_ofNat_toInt (show 0 < 2 ^ 63 by decide), lg_ofNat_toInt h]
  omega
theorem mst_no {Wv : Nat → Nat} {n : Nat} (h : ¬ (0 < Wv n ∧ mst Wv n < cnt 12 (fun z => n.testBit z))) : mst Wv (n + 1) = mst Wv n := by rw [mst, if_neg h]
theorem mst_yes {Wv : Nat → Nat} {n : Nat} (h : 0 < Wv n ∧ mst Wv n < cnt 12 (fun z => n.testBit z)) : mst Wv (n + 1) = cnt 12 (fun z => n.testBit z) := by rw [mst, if_pos h]
theorem dec_nI {a : Nat} (h : 1 ≤ a) : nI a + Int32.ofInt (-1) = nI (a - 1) := by
  obtain ⟨b, rfl⟩ : ∃ b, a = b + 1 := ⟨a - 1, by omega⟩
  rw [Nat.add_sub_cancel, ← nI_1]
  show nI b + 1 + (-1) = nI b
  rw [Int32.add_assoc]
  exact Int32.add_zero _
