theorem tak_lt {lev : Nat → Option Nat} {dep lv r y : Nat} {t : SG} (h : tak lev dep lv t r = true) (k : t.2.2 r = some y) : lv < dep := by
  unfold tak tkb at h
  rw [k] at h
  simp only [Bool.and_eq_true, decide_eq_true_eq] at h
  exact h.2.1
