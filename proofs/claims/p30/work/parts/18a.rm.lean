theorem nI_notbit (f : Nat → Bool) {k : Nat} : nI (mk f) &&& (nI (2 ^ k) ^^^ (-1)) = nI (mk (fun z => f z && !decide (z = k))) := by
  rw [nI_not]
  refine congrArg (fun g => nI (mk g)) (funext fun z => ?_)
  rw [Nat.testBit_two_pow]
  by_cases q : z = k
  · subst q; simp
  · have q2 : ¬ k = z := fun e => q e.symm
    simp [q, q2]
theorem rm_3 (E : Nat → Nat → Bool) (x y a : Nat) : va_up E x (fun z => E x z && !decide (z = y)) a = rmE E x y a := by
  funext b
  unfold va_up rmE
  by_cases h : a = x
  · subst h; simp
  · simp [h]
theorem rm_4 (E : Nat → Nat → Bool) (x y a : Nat) : va_up (tr E) y (fun z => tr E y z && !decide (z = x)) a = tr (rmE E x y) a := by
  funext b
  unfold va_up tr rmE
  by_cases h : a = y
  · subst h; simp
  · simp [h]
theorem ix_big2 {n : Nat} {x : Int32} (h : ¬ x < nI n) : ix n x = none := by
  unfold ix
  rw [if_neg (fun q => h q.2)]
theorem ix_in2 {n : Nat} {x : Int32} (h1 : ¬ x < 0) (h2 : x < nI n) : ∃ k, ix n x = some k := by
  unfold ix
  rw [if_pos]
  · exact ⟨_, rfl⟩
  · refine ⟨?_, h2⟩
    rw [Int32.le_iff_toInt_le]
    rw [Int32.lt_iff_toInt_lt] at h1
    omega
