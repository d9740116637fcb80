/-! the class's count of covers is the reference's -/
def al (x : Nat) (P : Nat → Bool) : Nat → Bool
  | 0 => true
  | l + 1 => al x P l && (x.testBit l == P l)
theorem al_iff {x : Nat} {P : Nat → Bool} : ∀ {l : Nat}, al x P l = true ↔ ∀ i, i < l → x.testBit i = P i
  | 0 => ⟨fun _ i h => absurd h (Nat.not_lt_zero _), fun _ => rfl⟩
  | l + 1 => by
    rw [al, Bool.and_eq_true, al_iff (l := l), beq_iff_eq]
    constructor
    · rintro ⟨a, b⟩ i hi
      by_cases e : i = l
      · subst e; exact b
      · exact a i (by omega)
    · exact fun h => ⟨fun i hi => h i (by omega), h l (by omega)⟩
theorem cnt_len {p : Nat → Bool} {l n : Nat} (h : l ≤ n) : cnt l p ≤ cnt n p :=
  cnt_inj l n p p id (fun z hz pz => ⟨by show z < n; omega, pz⟩) (fun z w _ _ _ _ e => e)
theorem nod_pre {E : Nat → Nat → Bool} {nl nr x l : Nat} {P : Nat → Bool} (hE : EB nl nr E) (hnl : nl ≤ 12) (hx : x < 2 ^ nl) (hl : l ≤ nl) (h : al x P l = true) : cnt l P + cnt 12 (fun z => ex l (fun i => !P i && E i z)) ≤ nod E nl nr x := by
  have h := al_iff.mp h
  have a := nod_S (E := E) (nr := nr) hnl hx
  have b := cnt_not nl (fun z => x.testBit z)
  have c : cnt l P = cnt l (fun z => x.testBit z) := cnt_congr (fun i hi => (h i hi).symm)
  have d := cnt_len (p := fun z => x.testBit z) hl
  have e : cnt 12 (fun z => ex l (fun i => !P i && E i z)) ≤ nbS E nl nr (fun z => !x.testBit z) := by
    refine cnt_inj 12 nr _ _ id (fun z hz pz => ?_) (fun z w _ _ _ _ e => e)
    obtain ⟨i, hi, q⟩ := ex_iff.mp pz
    rw [Bool.and_eq_true, ← h i hi] at q
    exact ⟨(hE i z q.2).2, ex_iff.mpr ⟨i, by omega, by rw [Bool.and_eq_true]; exact q⟩⟩
  omega
theorem nod_all {E : Nat → Nat → Bool} {nl nr x : Nat} {P : Nat → Bool} (hnr : nr ≤ 12) (hnl : nl ≤ 12) (hx : x < 2 ^ nl) (h : al x P nl = true) : nod E nl nr x ≤ cnt nl P + cnt 12 (fun z => ex nl (fun i => !P i && E i z)) := by
  have h := al_iff.mp h
  have a := nod_S (E := E) (nr := nr) hnl hx
  have b := cnt_not nl (fun z => x.testBit z)
  have c : cnt nl P = cnt nl (fun z => x.testBit z) := cnt_congr (fun i hi => (h i hi).symm)
  have e : nbS E nl nr (fun z => !x.testBit z) ≤ cnt 12 (fun z => ex nl (fun i => !P i && E i z)) := by
    refine cnt_inj nr 12 _ _ id (fun z hz pz => ?_) (fun z w _ _ _ _ e => e)
    obtain ⟨i, hi, q⟩ := ex_iff.mp pz
    have q : (!x.testBit i && E i z) = true := q
    rw [Bool.and_eq_true, h i hi] at q
    exact ⟨by show z < 12; omega, ex_iff.mpr ⟨i, hi, by rw [Bool.and_eq_true]; exact q⟩⟩
  omega
theorem cnt_0 {n : Nat} {p : Nat → Bool} (h : ∀ i, i < n → p i = false) : cnt n p = 0 := by
  rw [cnt_congr h, cnt_zero]
theorem cnt_1 {n x : Nat} {p : Nat → Bool} (hx : x < n) (h : ∀ i, i < n → (p i = true ↔ i = x)) : cnt n p = 1 := by
  rw [← cnt_out ((h x hx).mpr rfl) n hx, cnt_0]
  intro i hi
  rw [← Bool.not_eq_true]
  intro q
  rw [Bool.and_eq_true, Bool.not_eq_true', decide_eq_false_iff_not] at q
  exact q.2 ((h i hi).mp q.1)
theorem cvr_cnt {E : Nat → Nat → Bool} {nl nr mo : Nat} (hE : EB nl nr E) (hnl : nl ≤ 12) (hnr : nr ≤ 12) : ∀ f l P, f + l = nl + 1 → l ≤ nl → cvr E nl mo f l (cnt l P) (fun z => ex l (fun i => !P i && E i z)) = cnt (2 ^ nl) (fun x => al x P l && decide (nod E nl nr x ≤ mo))
  | 0, l, P, hf, hl => by omega
  | f + 1, l, P, hf, hl => by
    rw [cvr]
    by_cases c1 : mo < cnt l P + cnt 12 (fun z => ex l (fun i => !P i && E i z))
    · rw [if_pos c1, cnt_0]
      intro x hx
      rw [← Bool.not_eq_true]
      intro q
      rw [Bool.and_eq_true, decide_eq_true_eq] at q
      have := nod_pre hE hnl hx hl q.1
      omega
    · rw [if_neg c1]
      by_cases c2 : nl ≤ l
      · rw [if_pos c2]
        have e : l = nl := by omega
        subst e
        refine (cnt_1 (x := mk (fun z => decide (z < l) && P z)) (mk_n (fun z h => by simpa using (Bool.and_eq_true _ _ ▸ h : decide (z < l) = true ∧ P z = true).1)) (fun x hx => ?_)).symm
        rw [Bool.and_eq_true, decide_eq_true_eq]
        constructor
        · rintro ⟨a, -⟩
          refine eq_mk (Nat.lt_of_lt_of_le hx (pow12 hnl)) (fun i hi => ?_)
          by_cases k : i < l
          · rw [al_iff.mp a i k]; simp [k]
          · rw [bit_out hx (by omega)]; simp [k]
        · intro e
          have a : al x P l = true := al_iff.mpr (fun i hi => by rw [e, mk_tb' _ (by omega)]; simp [hi])
          have := nod_all (E := E) hnr hnl hx a
          exact ⟨a, by omega⟩
      · rw [if_neg c2]
        have h1 := cvr_cnt (mo := mo) hE hnl hnr f (l + 1) (va_up P l true) (by omega) (by omega)
        have h2 := cvr_cnt (mo := mo) hE hnl hnr f (l + 1) (va_up P l false) (by omega) (by omega)
        have g : ∀ b i, i < l → va_up P l b i = P i := fun b i hi => up_ne _ _ (by omega)
        have e1 : cnt (l + 1) (va_up P l true) = cnt l P + 1 := by rw [cnt_yes (up_at _ _ _), cnt_congr (g true)]
        have e2 : cnt (l + 1) (va_up P l false) = cnt l P := by rw [cnt_no (up_at _ _ _), cnt_congr (g false)]
        have n1 : (fun z => ex (l + 1) (fun i => !va_up P l true i && E i z)) = (fun z => ex l (fun i => !P i && E i z)) := by
          funext z
          rw [ex_succ, up_at, ex_congr (fun i hi => by rw [g true i hi])]
          simp
        have n2 : (fun z => ex (l + 1) (fun i => !va_up P l false i && E i z)) = (fun z => ex l (fun i => !P i && E i z) || E l z) := by
          funext z
          rw [ex_succ, up_at, ex_congr (fun i hi => by rw [g false i hi])]
          simp
        rw [e1, n1] at h1
        rw [e2, n2] at h2
        rw [h1, h2, ← cnt_or]
        · refine cnt_congr (fun x hx => ?_)
          have k : al x P l = (al x (va_up P l true) (l + 1) || al x (va_up P l false) (l + 1)) := by
            rw [al, al, up_at, up_at]
            have k2 : ∀ b, al x (va_up P l b) l = al x P l := fun b => by
              rw [Bool.eq_iff_iff, al_iff, al_iff]
              exact ⟨fun h i hi => by rw [h i hi, g b i hi], fun h i hi => by rw [h i hi, g b i hi]⟩
            rw [k2, k2]
            cases x.testBit l <;> simp
          rw [k, Bool.and_or_distrib_right]
        · intro x hx q
          rw [Bool.and_eq_true, al, Bool.and_eq_true, beq_iff_eq, up_at] at q
          rw [al, q.1.2, up_at]
          simp
/-- the count of smallest covers -/
theorem cvr_eq {nl nr : Nat} {E : Nat → Nat → Bool} {mL mR : Nat → Option Nat} (hm : MT nl nr E mL mR) (hnl : nl ≤ 12) (hnr : nr ≤ 12) (hE : EB nl nr E) (hx : LMx nl nr E (sz nl mL)) : cvr E nl (sz nl mL) (nl + 1) 0 0 (fun _ => false) = (lcv E nl nr (2 ^ nl)).1 := by
  have a := cvr_cnt (mo := sz nl mL) hE hnl hnr (nl + 1) 0 (fun _ => false) (by omega) (by omega)
  obtain ⟨l1, l2, l3⟩ := lcv_spec (E := E) (nl := nl) (nr := nr) (2 ^ nl)
  obtain ⟨x, b, c⟩ := nod_at hm hnl hnr hE hx
  have d : (lcv E nl nr (2 ^ nl)).2 = sz nl mL := by
    have := l1 x b
    have := sz_le nl mL
    rcases l2 with h | ⟨y, h1, h2⟩
    · omega
    · have := nod_ge (nr := nr) hm hnl h1
      omega
  refine a.trans ?_
  rw [l3, d]
  refine cnt_congr (fun y hy => ?_)
  have := nod_ge (nr := nr) hm hnl hy
  show (true && _) = _
  rw [Bool.true_and]
  exact decide_eq_decide.mpr (by omega)
