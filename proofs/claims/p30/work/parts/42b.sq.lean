theorem sq_jn {E : Nat → Nat → Bool} {mL mR : Nat → Option Nat} {nl nr i : Nat} (hi : i < 12) : decide (prt (jn (LHl E mL mR nl) (LHr E mL mR nl)) (jn (RHl E mL mR nr) (RHr E mL mR nr)) i = 1) = decide (pL E mL mR nl nr i = 1) := by
  unfold pL prt
  rw [jn_l hi, jn_l hi]
theorem fns_of {E R2 : Nat → Nat → Bool} {mL mR : Nat → Option Nat} {nl nr i : Nat} (hnl : nl ≤ 12) (hi : i < nl) (h : ∀ a b, a < nl → b < nl → R2 a b = RC E mL mR nl nr a b) (hs : pL E mL mR nl nr i = 1) : lw 12 (fun z => R2 i z && R2 z i) = lw 12 (fns E mL mR nl nr i) :=
  lw_agree (k := i) hi hnl (fun z hz => by unfold fns; rw [h i z hi hz, h z i hz hi]) (by show (R2 i i && R2 i i) = true; rw [h i i hi hi, RC_self hi hs]; rfl)
