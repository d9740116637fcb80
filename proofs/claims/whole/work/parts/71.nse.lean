/-! the words of a throw of NoSuchElementException are among the program's -/
theorem nse_x2 : ∀ w ∈ nseW.filter goodWord, w ∈ lw_tbl := by decide +kernel
