/-! the least covers, in the mirror -/
section COV3
variable {nl nr : Nat} {E : Nat → Nat → Bool} {mL mR : Nat → Option Nat}
theorem nod_sum {x : Nat} (hnl : nl ≤ 12) (hx : x < 2 ^ nl) : nod E nl nr x = cnt nl (fun z => x.testBit z) + nbS E nl nr (fun z => !x.testBit z) := by
  have a := nod_S (E := E) (nr := nr) hnl hx
  have b := cnt_not nl (fun z => x.testBit z)
  omega
/-- the right nodes that a cover with these left nodes wants -/
def oth (E : Nat → Nat → Bool) (nl nr x : Nat) : Nat := mk (fun r => decide (r < nr) && ex nl (fun l => !x.testBit l && E l r))
theorem oth_tb {x r : Nat} (hnr : nr ≤ 12) (hr : r < nr) : (oth E nl nr x).testBit r = ex nl (fun l => !x.testBit l && E l r) := by
  unfold oth
  rw [mk_tb' _ (by omega), decide_eq_true hr, Bool.true_and]
theorem oth_lt (x : Nat) : oth E nl nr x < 2 ^ nr := mk_n (fun z h => by
  rw [Bool.and_eq_true, decide_eq_true_eq] at h
  exact h.1)
theorem oth_pop {x : Nat} (hnr : nr ≤ 12) : cnt nr (fun r => (oth E nl nr x).testBit r) = nbS E nl nr (fun z => !x.testBit z) := cnt_congr (fun r hr => oth_tb hnr hr)
/-- the left nodes that those want lie in the cover -/
theorem oth_in {x l : Nat} (hnr : nr ≤ 12) (hl : l < nl) (h : ex nr (fun r => !(oth E nl nr x).testBit r && tr E r l) = true) : x.testBit l = true := by
  obtain ⟨r, hr, q⟩ := ex_iff.mp h
  rw [Bool.and_eq_true, Bool.not_eq_true', oth_tb hnr hr] at q
  cases k : x.testBit l with
  | true => rfl
  | false =>
    have a := ex_no.mp q.1 l hl
    rw [k] at a
    have q2 : E l r = true := q.2
    rw [q2] at a
    cases a
theorem oth_le {x : Nat} (hnr : nr ≤ 12) : nbS (tr E) nr nl (fun r => !(oth E nl nr x).testBit r) ≤ cnt nl (fun z => x.testBit z) := cnt_sub (fun l hl h => oth_in hnr hl h)
theorem oth_back (hm : MT nl nr E mL mR) (hnl : nl ≤ 12) (hnr : nr ≤ 12) {x : Nat} (hx : x < 2 ^ nl) (h : nod E nl nr x ≤ sz nl mL) {l : Nat} (hl : l < nl) : x.testBit l = ex nr (fun r => !(oth E nl nr x).testBit r && tr E r l) := by
  have a := nod_ge (E := tr E) hm.tr hnr (oth_lt (E := E) (nl := nl) (nr := nr) x)
  rw [sz_tr hm hnr, nod_sum (E := tr E) hnr (oth_lt x), oth_pop hnr] at a
  rw [nod_sum hnl hx] at h
  have b : cnt nl (fun z => x.testBit z) ≤ nbS (tr E) nr nl (fun r => !(oth E nl nr x).testBit r) := by omega
  rw [Bool.eq_iff_iff]
  constructor
  · intro k
    obtain ⟨z, -, c, e⟩ := cnt_onto (k := nl) (n := nl) (p := fun l => ex nr (fun r => !(oth E nl nr x).testBit r && tr E r l)) (q := fun z => x.testBit z) (f := fun z => z) (fun z hz pz => ⟨hz, oth_in hnr hz pz⟩) (fun z w _ _ _ _ e => e) b hl k
    have e : z = l := e
    rw [← e]
    exact c
  · exact oth_in hnr hl
theorem cvr_le (hm : MT nl nr E mL mR) (hnl : nl ≤ 12) (hnr : nr ≤ 12) : cnt (2 ^ nl) (fun x => decide (nod E nl nr x ≤ sz nl mL)) ≤ cnt (2 ^ nr) (fun y => decide (nod (tr E) nr nl y ≤ sz nl mL)) := by
  refine cnt_inj _ _ _ _ (oth E nl nr) (fun x hx h => ⟨oth_lt x, ?_⟩) (fun x y hx hy h1 h2 e => ?_)
  · rw [decide_eq_true_eq, nod_sum hnl hx] at h
    rw [decide_eq_true_eq, nod_sum (E := tr E) hnr (oth_lt x), oth_pop hnr]
    have := oth_le (E := E) (nl := nl) (x := x) hnr
    omega
  · rw [decide_eq_true_eq] at h1 h2
    apply Nat.eq_of_testBit_eq
    intro i
    by_cases hi : i < nl
    · rw [oth_back hm hnl hnr hx h1 hi, oth_back hm hnl hnr hy h2 hi, e]
    · rw [bit_out hx (by omega), bit_out hy (by omega)]
theorem cvr_as (hE : EB nl nr E) (hnl : nl ≤ 12) (hnr : nr ≤ 12) (n : Nat) : cvr E nl n (nl + 1) 0 0 (fun _ => false) = cnt (2 ^ nl) (fun x => decide (nod E nl nr x ≤ n)) := by
  have a := cvr_cnt (mo := n) hE hnl hnr (nl + 1) 0 (fun _ => false) (by omega) (by omega)
  exact a.trans (cnt_congr (fun x _ => Bool.true_and _))
theorem cvr_turn (hm : MT nl nr E mL mR) (hE : EB nl nr E) (hnl : nl ≤ 12) (hnr : nr ≤ 12) : cvr E nl (sz nl mL) (nl + 1) 0 0 (fun _ => false) = cvr (tr E) nr (sz nl mL) (nr + 1) 0 0 (fun _ => false) := by
  rw [cvr_as hE hnl hnr, cvr_as (E := tr E) hE.tr hnr hnl]
  refine Nat.le_antisymm (cvr_le hm hnl hnr) ?_
  have a := cvr_le (E := tr E) hm.tr hnr hnl
  rw [sz_tr hm hnr] at a
  exact a
end COV3
