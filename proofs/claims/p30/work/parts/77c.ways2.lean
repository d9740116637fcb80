/-! the number of matchings of a size: row by row, column by column -/
def noC (E : Nat → Nat → Bool) (i : Nat) : Nat → Nat → Bool := fun a b => E a b && !decide (b = i)
def noR (E : Nat → Nat → Bool) (i : Nat) : Nat → Nat → Bool := fun a b => E a b && !decide (a = i)
/-- the matchings of k edges between the first l left and the first r right nodes -/
def rho (r : Nat) : Nat → (Nat → Nat → Bool) → Nat → Nat
  | 0, _, k => if k = 0 then 1 else 0
  | l + 1, E, k => rho r l E k + (match k with
    | 0 => 0
    | k + 1 => sg r (fun i => if E l i then rho r l (noC E i) k else 0))
theorem rho_s (r l : Nat) (E : Nat → Nat → Bool) (k : Nat) : rho r (l + 1) E (k + 1) = rho r l E (k + 1) + sg r (fun i => if E l i then rho r l (noC E i) k else 0) := rfl
theorem rho_k0 (r : Nat) : ∀ l E, rho r l E 0 = 1
  | 0, _ => rfl
  | l + 1, E => by
    show rho r l E 0 + 0 = 1
    rw [rho_k0 r l E]
theorem rho_r0 : ∀ l E k, rho 0 l E k = if k = 0 then 1 else 0
  | 0, _, _ => rfl
  | l + 1, E, 0 => rho_k0 0 (l + 1) E
  | l + 1, E, k + 1 => by
    rw [rho_s, rho_r0 l E (k + 1)]
    rfl
theorem rho_congr (r : Nat) : ∀ l E F k, (∀ a b, a < l → b < r → E a b = F a b) → rho r l E k = rho r l F k
  | 0, _, _, _, _ => rfl
  | l + 1, E, F, 0, _ => by rw [rho_k0, rho_k0]
  | l + 1, E, F, k + 1, h => by
    rw [rho_s, rho_s, rho_congr r l E F (k + 1) (fun a b ha hb => h a b (by omega) hb)]
    refine congrArg (rho r l F (k + 1) + ·) (sg_congr (fun i hi => ?_))
    rw [h l i (by omega) hi, rho_congr r l (noC E i) (noC F i) k (fun a b ha hb => by unfold noC; rw [h a b (by omega) hb])]
theorem sg_comm (h : Nat → Nat → Nat) : ∀ n m, sg n (fun i => sg m (fun j => h i j)) = sg m (fun j => sg n (fun i => h i j))
  | 0, m => (sg_zero (n := m) (fun _ _ => rfl)).symm
  | n + 1, m => by
    rw [sg, sg_comm h n m, ← sg_add]
    rfl
theorem sg_if (c : Bool) (n : Nat) (h : Nat → Nat) : (if c then sg n h else 0) = sg n (fun i => if c then h i else 0) := by
  cases c with
  | true => rfl
  | false => exact (sg_zero (n := n) (fun _ _ => rfl)).symm
theorem if_sum (c : Bool) (x y : Nat) : (if c then x + y else 0) = (if c then x else 0) + (if c then y else 0) := by
  cases c <;> rfl
/-- the last column without edges -/
theorem rho_col0 (r : Nat) : ∀ l E k, (∀ a, a < l → E a r = false) → rho (r + 1) l E k = rho r l E k
  | 0, _, _, _ => rfl
  | l + 1, E, 0, _ => by rw [rho_k0, rho_k0]
  | l + 1, E, k + 1, h => by
    rw [rho_s, rho_s, rho_col0 r l E (k + 1) (fun a ha => h a (by omega)), sg, h l (by omega)]
    refine congrArg (rho r l E (k + 1) + ·) ?_
    show _ + 0 = _
    rw [Nat.add_zero]
    refine sg_congr (fun i hi => ?_)
    rw [rho_col0 r l (noC E i) k (fun a ha => by unfold noC; rw [h a (by omega)]; rfl)]
/-- the last row without edges -/
theorem rho_row0 (r l : Nat) (E : Nat → Nat → Bool) (k : Nat) (h : ∀ b, b < r → E l b = false) : rho r (l + 1) E k = rho r l E k := by
  cases k with
  | zero => rw [rho_k0, rho_k0]
  | succ k =>
    rw [rho_s, sg_zero (fun i hi => by rw [h i hi]; rfl)]
    rfl
theorem rho_col (r : Nat) : ∀ l E k, rho (r + 1) l E (k + 1) = rho r l E (k + 1) + sg l (fun a => if E a r then rho r l (noR E a) k else 0)
  | 0, _, _ => rfl
  | l + 1, E, k => by
    have ih := rho_col r l
    have e1 : rho (r + 1) l (noC E r) k = rho r l E k := by
      rw [rho_col0 r l (noC E r) k (fun a _ => by unfold noC; simp)]
      exact rho_congr r l _ _ k (fun a b _ hb => by unfold noC; rw [decide_eq_false (show ¬ b = r by omega)]; simp)
    have e2 : rho r (l + 1) (noR E l) k = rho r l E k := by
      rw [rho_row0 r l (noR E l) k (fun b _ => by unfold noR; simp)]
      exact rho_congr r l _ _ k (fun a b ha _ => by unfold noR; rw [decide_eq_false (show ¬ a = l by omega)]; simp)
    rw [rho_s (r + 1) l E k, ih E k, sg, e1, rho_s r l E k, sg, e2]
    have e3 : sg r (fun i => if E l i then rho (r + 1) l (noC E i) k else 0) + sg l (fun a => if E a r then rho r l (noR E a) k else 0) = sg r (fun i => if E l i then rho r l (noC E i) k else 0) + sg l (fun a => if E a r then rho r (l + 1) (noR E a) k else 0) := by
      cases k with
      | zero =>
        refine congr (congrArg _ (sg_congr (fun i _ => by rw [rho_k0, rho_k0]))) (sg_congr (fun i _ => by rw [rho_k0, rho_k0]))
      | succ k =>
        have f1 : sg r (fun i => if E l i then rho (r + 1) l (noC E i) (k + 1) else 0) = sg r (fun i => if E l i then rho r l (noC E i) (k + 1) else 0) + sg r (fun i => sg l (fun a => if E l i then (if E a r then rho r l (noR (noC E i) a) k else 0) else 0)) := by
          rw [← sg_add]
          refine sg_congr (fun i hi => ?_)
          rw [ih (noC E i) k, if_sum, sg_if]
          refine congrArg _ (sg_congr (fun a _ => ?_))
          have : noC E i a r = E a r := by unfold noC; rw [decide_eq_false (show ¬ r = i by omega)]; simp
          rw [this]
        have f2 : sg l (fun a => if E a r then rho r (l + 1) (noR E a) (k + 1) else 0) = sg l (fun a => if E a r then rho r l (noR E a) (k + 1) else 0) + sg l (fun a => sg r (fun i => if E l i then (if E a r then rho r l (noR (noC E i) a) k else 0) else 0)) := by
          rw [← sg_add]
          refine sg_congr (fun a ha => ?_)
          rw [rho_s, if_sum, sg_if]
          refine congrArg _ (sg_congr (fun i _ => ?_))
          have : noR E a l i = E l i := by unfold noR; rw [decide_eq_false (show ¬ l = a by omega)]; simp
          rw [this]
          have : noC (noR E a) i = noR (noC E i) a := by
            funext x y
            show ((E x y && !decide (x = a)) && !decide (y = i)) = ((E x y && !decide (y = i)) && !decide (x = a))
            rw [Bool.and_assoc, Bool.and_comm (!decide (x = a)), ← Bool.and_assoc]
          rw [this]
          cases E a r <;> cases E l i <;> rfl
        rw [f1, f2, sg_comm]
        omega
    omega
theorem noC_tr (E : Nat → Nat → Bool) (i : Nat) : noC (tr E) i = tr (noR E i) := rfl
theorem rho_tr (l : Nat) : ∀ r E k, rho r l E k = rho l r (tr E) k
  | 0, E, k => rho_r0 l E k
  | r + 1, E, 0 => by rw [rho_k0, rho_k0]
  | r + 1, E, k + 1 => by
    rw [rho_col, rho_s, rho_tr l r E (k + 1)]
    refine congrArg (rho l r (tr E) (k + 1) + ·) (sg_congr (fun i hi => ?_))
    rw [noC_tr, ← rho_tr l r (noR E i) k]
    rfl
/-! the ways by sets of right nodes are this number -/
theorem sg_one {n a v : Nat} (h : a < n) : sg n (fun x => if x = a then v else 0) = v := by
  induction n with
  | zero => omega
  | succ n ih =>
    rw [sg]
    by_cases e : n = a
    · rw [if_pos e, sg_zero (fun i hi => if_neg (by omega))]
      omega
    · rw [if_neg e, ih (by omega), Nat.add_zero]
theorem sg_out {q : Nat → Bool} {h : Nat → Nat} {y : Nat} (hq : q y = true) : ∀ n, y < n → sg n (fun z => if q z && !decide (z = y) then h z else 0) + h y = sg n (fun z => if q z then h z else 0)
  | 0, k => absurd k (Nat.not_lt_zero _)
  | n + 1, k => by
    rw [sg, sg]
    by_cases e : n = y
    · subst e
      have e1 : sg n (fun z => if q z && !decide (z = n) then h z else 0) = sg n (fun z => if q z then h z else 0) := sg_congr (fun i hi => by
        rw [decide_eq_false (show ¬ i = n by omega)]
        simp)
      rw [e1, hq]
      simp
    · have ih := sg_out (h := h) hq n (by omega)
      have e2 : (q n && !decide (n = y)) = q n := by simp [e]
      rw [e2]
      omega
theorem sg_inj (h : Nat → Nat) : ∀ (k n : Nat) (p q : Nat → Bool) (f : Nat → Nat), (∀ z, z < k → p z = true → f z < n ∧ q (f z) = true) → (∀ z w, z < k → w < k → p z = true → p w = true → f z = f w → z = w) → sg k (fun z => if p z then h (f z) else 0) ≤ sg n (fun y => if q y then h y else 0)
  | 0, n, p, q, f, _, _ => Nat.zero_le _
  | k + 1, n, p, q, f, h1, h2 => by
    rw [sg]
    by_cases pk : p k = true
    · have hk := h1 k (by omega) pk
      have ih := sg_inj h k n p (fun z => q z && !decide (z = f k)) f (fun z hz pz => ⟨(h1 z (by omega) pz).1, by
        have a := (h1 z (by omega) pz).2
        have b : ¬ f z = f k := fun e => by have := h2 z k (by omega) (by omega) pz pk e; omega
        simp [a, b]⟩) (fun z w hz hw => h2 z w (by omega) (by omega))
      have := sg_out (h := h) hk.2 n hk.1
      rw [if_pos pk]
      omega
    · rw [if_neg pk]
      exact sg_inj h k n p q f (fun z hz => h1 z (by omega)) (fun z w hz hw => h2 z w (by omega) (by omega))
theorem swt_sg (W : Nat → Nat) (p : Nat) : ∀ n, swt W p n = sg n (fun x => if cnt 12 (fun z => x.testBit z) = p then W x else 0)
  | 0 => rfl
  | n + 1 => by rw [swt, swt_sg W p n, sg]
theorem clr_pop {x i : Nat} (hx : x < 4096) (hi : i < 12) (h : x.testBit i = true) : cnt 12 (fun z => (clr x i).testBit z) + 1 = cnt 12 (fun z => x.testBit z) := by
  rw [← cnt_out (q := fun z => x.testBit z) (y := i) h 12 hi]
  refine congrArg (· + 1) (cnt_congr (fun z _ => clr_tb x i z hx))
theorem wf_noC (E : Nat → Nat → Bool) (nr i : Nat) (hnr : nr ≤ 12) : ∀ l y, y < 4096 → wf (noC E i) nr l y = if y.testBit i then 0 else wf E nr l y
  | 0, y, hy => by
    show (if y = 0 then 1 else 0) = if y.testBit i then 0 else (if y = 0 then 1 else 0)
    by_cases e : y = 0
    · subst e; simp
    · rw [if_neg e]; simp
  | l + 1, y, hy => by
    have ih := wf_noC E nr i hnr l
    show wf (noC E i) nr l y + sg nr _ = _
    rw [ih y hy]
    cases q : y.testBit i with
    | true =>
      show 0 + sg nr _ = 0
      rw [sg_zero (fun j hj => ?_)]
      by_cases c : (y.testBit j && noC E i l j) = true
      · rw [if_pos c]
        rw [Bool.and_eq_true] at c
        have c2 := c.2
        unfold noC at c2
        rw [Bool.and_eq_true, Bool.not_eq_true', decide_eq_false_iff_not] at c2
        have hc := clr_le (r := j) hy c.1
        rw [ih _ (by omega), clr_tb y j i hy, q, decide_eq_false (fun e => c2.2 e.symm)]
        rfl
      · rw [if_neg c]
    | false =>
      show wf E nr l y + sg nr _ = wf E nr l y + sg nr _
      refine congrArg (wf E nr l y + ·) (sg_congr (fun j hj => ?_))
      have e : (y.testBit j && noC E i l j) = (y.testBit j && E l j) := by
        unfold noC
        by_cases c : j = i
        · subst c; rw [q]; rfl
        · rw [decide_eq_false c]; simp
      rw [e]
      by_cases c : (y.testBit j && E l j) = true
      · rw [if_pos c, if_pos c]
        rw [Bool.and_eq_true] at c
        have hc := clr_le (r := j) hy c.1
        rw [ih _ (by omega), clr_tb y j i hy, q]
        rfl
      · rw [if_neg c, if_neg c]
theorem or_pop {y i : Nat} (hy : y < 4096) (hi : i < 12) (h : y.testBit i = false) : cnt 12 (fun z => (y ||| 2 ^ i).testBit z) = cnt 12 (fun z => y.testBit z) + 1 := by
  have a := clr_pop (x := y ||| 2 ^ i) (i := i) (or_lt12 hy hi) hi (by rw [Nat.testBit_or, Nat.testBit_two_pow]; simp)
  rw [or_clr hy hi h] at a
  exact a.symm
theorem or_ltp {nr y i : Nat} (hy : y < 2 ^ nr) (hi : i < nr) : y ||| 2 ^ i < 2 ^ nr := Nat.or_lt_two_pow hy (Nat.pow_lt_pow_right (by decide) hi)
/-- the sets with i, by the sets without it -/
theorem with_i {nr i k : Nat} (W : Nat → Nat) (hnr : nr ≤ 12) (hi : i < nr) : sg (2 ^ nr) (fun x => if decide (cnt 12 (fun z => x.testBit z) = k + 1) && x.testBit i then W (clr x i) else 0) = sg (2 ^ nr) (fun y => if decide (cnt 12 (fun z => y.testBit z) = k) && !y.testBit i then W y else 0) := by
  have hp := pow12 hnr
  refine Nat.le_antisymm ?_ ?_
  · refine sg_inj W (2 ^ nr) (2 ^ nr) (fun x => decide (cnt 12 (fun z => x.testBit z) = k + 1) && x.testBit i) (fun y => decide (cnt 12 (fun z => y.testBit z) = k) && !y.testBit i) (fun x => clr x i) (fun x hx h => ?_) (fun x y hx hy h1 h2 e => ?_)
    · rw [Bool.and_eq_true, decide_eq_true_eq] at h
      have a := clr_pop (x := x) (i := i) (by omega) (by omega) h.2
      have b := clr_le (x := x) (r := i) (by omega) h.2
      refine ⟨by omega, ?_⟩
      rw [Bool.and_eq_true, decide_eq_true_eq, clr_tb x i i (by omega)]
      exact ⟨by omega, by simp⟩
    · rw [Bool.and_eq_true] at h1 h2
      have e : clr x i = clr y i := e
      rw [← clr_or (x := x) (r := i) (by omega) h1.2, ← clr_or (x := y) (r := i) (by omega) h2.2, e]
  · have g : sg (2 ^ nr) (fun y => if decide (cnt 12 (fun z => y.testBit z) = k) && !y.testBit i then W y else 0) = sg (2 ^ nr) (fun y => if decide (cnt 12 (fun z => y.testBit z) = k) && !y.testBit i then (fun x => W (clr x i)) (y ||| 2 ^ i) else 0) := sg_congr (fun y hy => by
      by_cases c : (decide (cnt 12 (fun z => y.testBit z) = k) && !y.testBit i) = true
      · rw [if_pos c, if_pos c]
        rw [Bool.and_eq_true, Bool.not_eq_true'] at c
        show W y = W (clr (y ||| 2 ^ i) i)
        rw [or_clr (by omega) (by omega) c.2]
      · rw [if_neg c, if_neg c])
    rw [g]
    refine sg_inj (fun x => W (clr x i)) (2 ^ nr) (2 ^ nr) (fun y => decide (cnt 12 (fun z => y.testBit z) = k) && !y.testBit i) (fun x => decide (cnt 12 (fun z => x.testBit z) = k + 1) && x.testBit i) (fun y => y ||| 2 ^ i) (fun y hy h => ?_) (fun x y hx hy h1 h2 e => ?_)
    · rw [Bool.and_eq_true, decide_eq_true_eq, Bool.not_eq_true'] at h
      refine ⟨or_ltp hy hi, ?_⟩
      rw [or_pop (by omega) (by omega) h.2, h.1, Nat.testBit_or, Nat.testBit_two_pow]
      simp
    · rw [Bool.and_eq_true, Bool.not_eq_true'] at h1 h2
      have e : x ||| 2 ^ i = y ||| 2 ^ i := e
      rw [← or_clr (u := x) (r := i) (by omega) (by omega) h1.2, ← or_clr (u := y) (r := i) (by omega) (by omega) h2.2, e]
theorem swt_rho {nr : Nat} (hnr : nr ≤ 12) : ∀ l E k, swt (wf E nr l) k (2 ^ nr) = rho nr l E k
  | 0, E, k => by
    have hp := Nat.two_pow_pos nr
    rw [swt_sg]
    show _ = if k = 0 then 1 else 0
    have e : sg (2 ^ nr) (fun x => if cnt 12 (fun z => x.testBit z) = k then wf E nr 0 x else 0) = sg (2 ^ nr) (fun x => if x = 0 then (if k = 0 then 1 else 0) else 0) := sg_congr (fun x _ => by
      show (if _ then (if x = 0 then 1 else 0) else 0) = _
      by_cases c : x = 0
      · subst c
        rw [cnt_0 (fun i _ => Nat.zero_testBit i)]
        by_cases d : k = 0
        · subst d; rfl
        · rw [if_neg (fun e => d e.symm), if_neg d]; rfl
      · rw [if_neg c, if_neg c]; simp)
    rw [e, sg_one hp]
  | l + 1, E, k => by
    have hp := pow12 hnr
    have ih := swt_rho hnr l
    have e1 : swt (wf E nr (l + 1)) k (2 ^ nr) = swt (wf E nr l) k (2 ^ nr) + sg nr (fun i => sg (2 ^ nr) (fun x => if cnt 12 (fun z => x.testBit z) = k then (if x.testBit i && E l i then wf E nr l (clr x i) else 0) else 0)) := by
      rw [swt_sg, swt_sg, ← sg_comm, ← sg_add]
      refine sg_congr (fun x hx => ?_)
      by_cases c : cnt 12 (fun z => x.testBit z) = k
      · rw [if_pos c, if_pos c]
        refine congrArg (wf E nr l x + ·) (sg_congr (fun i _ => ?_))
        rw [if_pos c]
      · rw [if_neg c, if_neg c, sg_zero (fun i _ => if_neg c)]
    rw [e1, ih E k]
    cases k with
    | zero =>
      rw [rho_k0, rho_k0, sg_zero (fun i hi => sg_zero (fun x hx => ?_))]
      by_cases c : cnt 12 (fun z => x.testBit z) = 0
      · rw [if_pos c, if_neg]
        intro q
        rw [Bool.and_eq_true] at q
        have := clr_pop (x := x) (i := i) (by omega) (by omega) q.1
        omega
      · rw [if_neg c]
    | succ k =>
      rw [rho_s]
      refine congrArg (rho nr l E (k + 1) + ·) (sg_congr (fun i hi => ?_))
      cases q : E l i with
      | false =>
        rw [sg_zero (fun x _ => ?_)]
        · rfl
        · rw [Bool.and_false]; simp
      | true =>
        rw [if_pos rfl, ← ih (noC E i) k, swt_sg]
        have e2 : sg (2 ^ nr) (fun x => if cnt 12 (fun z => x.testBit z) = k + 1 then (if x.testBit i && true then wf E nr l (clr x i) else 0) else 0) = sg (2 ^ nr) (fun x => if decide (cnt 12 (fun z => x.testBit z) = k + 1) && x.testBit i then wf E nr l (clr x i) else 0) := sg_congr (fun x _ => by
          rw [Bool.and_true]
          by_cases c : cnt 12 (fun z => x.testBit z) = k + 1
          · rw [if_pos c, decide_eq_true c, Bool.true_and]
          · rw [if_neg c, decide_eq_false c, Bool.false_and]; rfl)
        rw [e2, with_i (wf E nr l) hnr hi]
        refine sg_congr (fun y hy => ?_)
        rw [wf_noC E nr i hnr l y (by omega)]
        by_cases c : cnt 12 (fun z => y.testBit z) = k
        · rw [if_pos c, decide_eq_true c, Bool.true_and]
          cases y.testBit i <;> rfl
        · rw [if_neg c, decide_eq_false c, Bool.false_and]; rfl
/-- the count of largest matchings, in the mirror -/
theorem ways_turn {E : Nat → Nat → Bool} {nl nr p : Nat} (hnl : nl ≤ 12) (hnr : nr ≤ 12) : swt (wys E nr nl) p (2 ^ nr) = swt (wys (tr E) nl nr) p (2 ^ nl) := by
  have a : ∀ (F : Nat → Nat → Bool) (x y : Nat), y ≤ 12 → swt (wys F y x) p (2 ^ y) = rho y x F p := fun F x y hy => by
    rw [← swt_rho hy]
    exact swt_congr _ (fun z hz => wys_wf hy x z hz)
  rw [a E nl nr hnr, a (tr E) nr nl hnl]
  exact rho_tr nl nr E p
