/-! the class's ways and the reference's are the same numbers -/
def sg : Nat → (Nat → Nat) → Nat
  | 0, _ => 0
  | n + 1, h => sg n h + h n
theorem sg_congr {h g : Nat → Nat} : ∀ {n : Nat}, (∀ i, i < n → h i = g i) → sg n h = sg n g
  | 0, _ => rfl
  | n + 1, k => by rw [sg, sg, sg_congr (fun i hi => k i (by omega)), k n (by omega)]
theorem sg_add (h g : Nat → Nat) : ∀ n, sg n (fun i => h i + g i) = sg n h + sg n g
  | 0 => rfl
  | n + 1 => by
    have := sg_add h g n
    show sg n _ + (h n + g n) = sg n h + h n + (sg n g + g n)
    omega
theorem sg_zero {h : Nat → Nat} : ∀ {n : Nat}, (∀ i, i < n → h i = 0) → sg n h = 0
  | 0, _ => rfl
  | n + 1, k => by rw [sg, sg_zero (fun i hi => k i (by omega)), k n (by omega)]
theorem sg_pos {h : Nat → Nat} : ∀ {n : Nat}, 0 < sg n h ↔ ∃ i, i < n ∧ 0 < h i
  | 0 => ⟨fun h => absurd h (Nat.lt_irrefl _), fun ⟨i, h, _⟩ => absurd h (Nat.not_lt_zero _)⟩
  | n + 1 => by
    rw [sg]
    have ih := sg_pos (h := h) (n := n)
    constructor
    · intro k
      by_cases q : 0 < sg n h
      · obtain ⟨i, a, b⟩ := ih.mp q
        exact ⟨i, by omega, b⟩
      · exact ⟨n, by omega, by omega⟩
    · rintro ⟨i, a, b⟩
      by_cases e : i = n
      · subst e; omega
      · have := ih.mpr ⟨i, by omega, b⟩
        omega
theorem sg_le {h : Nat → Nat} {B : Nat} : ∀ {n : Nat}, (∀ i, i < n → h i ≤ B) → sg n h ≤ n * B
  | 0, _ => by rw [sg]; omega
  | n + 1, k => by
    have a := sg_le (n := n) (fun i hi => k i (by omega))
    have b := k n (by omega)
    rw [sg, Nat.succ_mul]
    omega
theorem sad_sg (Wv : Nat → Nat) (f : Nat → Bool) (x : Nat) : ∀ j, sad Wv f x j = Wv x + sg j (fun i => if x.testBit i && f i then Wv (clr x i) else 0)
  | 0 => rfl
  | j + 1 => by rw [sad, sad_sg Wv f x j, sg, Nat.add_assoc]
theorem clr_tb (x r i : Nat) (hx : x < 4096) : (clr x r).testBit i = (x.testBit i && !decide (i = r)) := by
  unfold clr
  rw [mk_tb]
  by_cases h : i < 12
  · simp [h]
  · have : x.testBit i = false := Nat.testBit_lt_two_pow (Nat.lt_of_lt_of_le hx (Nat.pow_le_pow_right (n := 2) (by decide) (i := 12) (by omega)))
    simp [h, this]
theorem clr_or {x r : Nat} (hx : x < 4096) (h : x.testBit r = true) : clr x r ||| 2 ^ r = x := by
  apply Nat.eq_of_testBit_eq
  intro i
  rw [Nat.testBit_or, clr_tb x r i hx, Nat.testBit_two_pow]
  by_cases e : i = r
  · subst e; simp [h]
  · have : ¬ r = i := fun z => e z.symm
    simp [e, this]
theorem clr_le {x r : Nat} (hx : x < 4096) (h : x.testBit r = true) : clr x r ≤ x := by
  have : clr x r ≤ clr x r ||| 2 ^ r := Nat.left_le_or
  rw [clr_or hx h] at this
  exact this
theorem clr_lt' {x r : Nat} (hx : x < 4096) (h : x.testBit r = true) : clr x r < x := by
  have a := clr_le hx h
  rcases Nat.lt_or_ge (clr x r) x with b | b
  · exact b
  · exfalso
    have e : clr x r = x := by omega
    have h2 := clr_tb x r r hx
    rw [e, h] at h2
    simp at h2
theorem or_clr {u r : Nat} (hu : u < 4096) (hr : r < 12) (h : u.testBit r = false) : clr (u ||| 2 ^ r) r = u := by
  apply Nat.eq_of_testBit_eq
  intro i
  rw [clr_tb _ r i (or_lt12 hu hr), Nat.testBit_or, Nat.testBit_two_pow]
  by_cases e : i = r
  · subst e; simp [h]
  · have : ¬ r = i := fun z => e z.symm
    simp [e, this]
/-- the ways to match the first left nodes so that these right nodes are used -/
def wf (E : Nat → Nat → Bool) (nr : Nat) : Nat → Nat → Nat
  | 0 => fun x => if x = 0 then 1 else 0
  | l + 1 => fun x => wf E nr l x + sg nr (fun i => if x.testBit i && E l i then wf E nr l (clr x i) else 0)
theorem rdw_eq {Wv : Nat → Nat} {f : Nat → Bool} {nr : Nat} (hnr : nr ≤ 12) : ∀ k, k ≤ 2 ^ nr - 1 → ∀ x, rdw Wv f nr k x = if 2 ^ nr - 1 - k < x ∧ x < 2 ^ nr then Wv x + sg nr (fun i => if x.testBit i && f i then Wv (clr x i) else 0) else Wv x
  | 0, _, x => by
    rw [if_neg (by omega)]
    rfl
  | k + 1, hk, x => by
    have hp := pow12 hnr
    have ih := rdw_eq (Wv := Wv) (f := f) hnr k (by omega)
    rw [rdw]
    unfold va_up
    by_cases e : x = 2 ^ nr - 1 - k
    · rw [if_pos e, ← e, sad_sg, if_pos (by omega), ih x, if_neg (by omega)]
      refine congrArg (Wv x + ·) (sg_congr (fun i hi => ?_))
      by_cases q : (x.testBit i && f i) = true
      · rw [if_pos q, if_pos q, ih, if_neg]
        rw [Bool.and_eq_true] at q
        have := clr_le (r := i) (x := x) (by omega) q.1
        omega
      · rw [if_neg q, if_neg q]
    · rw [if_neg e, ih x]
      by_cases q : 2 ^ nr - 1 - k < x ∧ x < 2 ^ nr
      · rw [if_pos q, if_pos (by omega)]
      · rw [if_neg q, if_neg (by omega)]
theorem wyr_wf {E : Nat → Nat → Bool} {nr : Nat} (hnr : nr ≤ 12) : ∀ l x, x < 2 ^ nr → wyr E nr l x = wf E nr l x
  | 0, x, _ => rfl
  | l + 1, x, hx => by
    have hp := pow12 hnr
    have ih := wyr_wf (E := E) hnr l
    rw [wyr, rdw_eq hnr _ (Nat.le_refl _), wf]
    by_cases e : x = 0
    · subst e
      have z : sg nr (fun i => if (0 : Nat).testBit i && E l i then wf E nr l (clr 0 i) else 0) = 0 := sg_zero (fun i _ => by simp)
      rw [if_neg (by omega), ih 0 hx]
      exact (congrArg (wf E nr l 0 + ·) z).symm
    · rw [if_pos (by omega), ih x hx]
      refine congrArg (wf E nr l x + ·) (sg_congr (fun i hi => ?_))
      by_cases q : (x.testBit i && E l i) = true
      · rw [if_pos q, if_pos q, ih]
        rw [Bool.and_eq_true] at q
        have := clr_le (r := i) (x := x) (by omega) q.1
        omega
      · rw [if_neg q, if_neg q]
theorem wyr_le {E : Nat → Nat → Bool} {nr : Nat} (hnr : nr ≤ 12) : ∀ l x, wyr E nr l x ≤ 13 ^ l
  | 0, x => by
    show (if x = 0 then 1 else 0) ≤ 1
    split <;> omega
  | l + 1, x => by
    have ih := wyr_le (E := E) hnr l
    have h1 := ih x
    rw [wyr, rdw_eq hnr _ (Nat.le_refl _), Nat.pow_succ]
    split
    · have := sg_le (n := nr) (B := 13 ^ l) (h := fun i => if x.testBit i && E l i then wyr E nr l (clr x i) else 0) (fun i _ => by
        show (if _ then _ else _) ≤ _
        split
        · exact ih _
        · omega)
      have h2 : nr * 13 ^ l ≤ 12 * 13 ^ l := Nat.mul_le_mul_right _ hnr
      omega
    · omega
theorem wyr_lt {E : Nat → Nat → Bool} {nl nr : Nat} (hnl : nl ≤ 12) (hnr : nr ≤ 12) (x : Nat) : wyr E nr nl x < 2 ^ 63 := by
  have a := wyr_le (E := E) hnr nl x
  have b : 13 ^ nl ≤ 13 ^ 12 := Nat.pow_le_pow_right (by decide) hnl
  have c : 13 ^ 12 < 2 ^ 63 := by decide
  omega
theorem spr_val {W : Nat → Nat} {u : Nat} {g : Nat → Bool} (hg : ∀ i, g i = true → u.testBit i = false) : ∀ j S, spr W u g j S = W S + sg j (fun i => if g i && decide (S = u ||| 2 ^ i) then W u else 0)
  | 0, S => rfl
  | j + 1, S => by
    have ih := spr_val (W := W) hg j
    have hu : spr W u g j u = W u := by
      rw [ih u, sg_zero, Nat.add_zero]
      intro i hi
      rw [if_neg]
      intro q
      rw [Bool.and_eq_true, decide_eq_true_eq] at q
      have a := hg i q.1
      rw [q.2, Nat.testBit_or, Nat.testBit_two_pow] at a
      simp at a
    rw [spr, sg]
    by_cases q : g j = true
    · rw [if_pos q]
      unfold va_up
      by_cases e : S = u ||| 2 ^ j
      · rw [if_pos e, hu, ← e, ih S, if_pos (by rw [q]; simp), Nat.add_assoc]
      · rw [if_neg e, ih S, if_neg (by rw [q, decide_eq_false e]; decide), Nat.add_zero]
    · rw [if_neg q, ih S, if_neg (by simp [q]), Nat.add_zero]
theorem adw_eq {W : Nat → Nat} {f : Nat → Bool} {nr : Nat} (hnr : nr ≤ 12) : ∀ k, k ≤ 2 ^ nr → ∀ x, x < 2 ^ nr → adw W f nr k x = W x + sg nr (fun i => if x.testBit i && f i && decide (2 ^ nr - k ≤ clr x i) then W (clr x i) else 0)
  | 0, _, x, hx => by
    have hp := pow12 hnr
    rw [sg_zero]
    · rfl
    · intro i hi
      rw [if_neg]
      intro q
      rw [Bool.and_eq_true, Bool.and_eq_true, decide_eq_true_eq] at q
      have := clr_le (r := i) (x := x) (by omega) q.1.1
      omega
  | k + 1, hk, x, hx => by
    have hp := pow12 hnr
    have ih := adw_eq (W := W) (f := f) hnr k (by omega)
    have hu : adw W f nr k (2 ^ nr - 1 - k) = W (2 ^ nr - 1 - k) := by
      rw [ih _ (by omega), sg_zero, Nat.add_zero]
      intro i hi
      rw [if_neg]
      intro q
      rw [Bool.and_eq_true, Bool.and_eq_true, decide_eq_true_eq] at q
      have := clr_le (r := i) (x := 2 ^ nr - 1 - k) (by omega) q.1.1
      omega
    rw [adw, spr_val (fun i h => by simpa using (Bool.and_eq_true _ _ ▸ h : f i = true ∧ (!(2 ^ nr - 1 - k).testBit i) = true).2), ih x hx, Nat.add_assoc, ← sg_add, hu]
    refine congrArg (W x + ·) (sg_congr (fun i hi => ?_))
    generalize hc : 2 ^ nr - 1 - k = u
    by_cases b : x.testBit i = true
    · have c1 := clr_or (x := x) (r := i) (by omega) b
      have c2 : (clr x i).testBit i = false := by rw [clr_tb x i i (by omega)]; simp
      by_cases e : clr x i = u
      · have q1 : decide (2 ^ nr - k ≤ clr x i) = false := decide_eq_false (by omega)
        have q2 : decide (2 ^ nr - (k + 1) ≤ clr x i) = true := decide_eq_true (by omega)
        rw [q1, q2]
        rw [e] at c1 c2
        rw [e, c1, c2, b]
        cases f i <;> simp
      · have q1 : decide (2 ^ nr - (k + 1) ≤ clr x i) = decide (2 ^ nr - k ≤ clr x i) := decide_eq_decide.mpr (by omega)
        rw [q1]
        have q2 : (f i && !u.testBit i && decide (x = u ||| 2 ^ i)) = false := by
          rw [← Bool.not_eq_true]
          intro q
          rw [Bool.and_eq_true, Bool.and_eq_true, decide_eq_true_eq, Bool.not_eq_true'] at q
          apply e
          rw [q.2]
          exact or_clr (by omega) (by omega) q.1.2
        rw [q2]
        simp
    · have q2 : (f i && !u.testBit i && decide (x = u ||| 2 ^ i)) = false := by
        rw [← Bool.not_eq_true]
        intro q
        rw [Bool.and_eq_true, Bool.and_eq_true, decide_eq_true_eq] at q
        apply b
        rw [q.2, Nat.testBit_or, Nat.testBit_two_pow]
        simp
      rw [q2]
      simp [b]
theorem wys_wf {E : Nat → Nat → Bool} {nr : Nat} (hnr : nr ≤ 12) : ∀ l x, x < 2 ^ nr → wys E nr l x = wf E nr l x
  | 0, x, _ => rfl
  | l + 1, x, hx => by
    have hp := pow12 hnr
    have ih := wys_wf (E := E) hnr l
    rw [wys, adw_eq hnr _ (Nat.le_refl _) x hx, wf, ih x hx]
    refine congrArg (wf E nr l x + ·) (sg_congr (fun i hi => ?_))
    rw [show decide (2 ^ nr - 2 ^ nr ≤ clr x i) = true from decide_eq_true (by omega), Bool.and_true]
    by_cases q : (x.testBit i && E l i) = true
    · rw [if_pos q, if_pos q, ih]
      rw [Bool.and_eq_true] at q
      have := clr_le (r := i) (x := x) (by omega) q.1
      omega
    · rw [if_neg q, if_neg q]
theorem swt_congr {W V : Nat → Nat} {p : Nat} : ∀ n, (∀ x, x < n → W x = V x) → swt W p n = swt V p n
  | 0, _ => rfl
  | n + 1, h => by rw [swt, swt, swt_congr n (fun x hx => h x (by omega)), h n (by omega)]
theorem cwE_none (E : Nat → Nat → Bool) : cwE E none none none = E := by
  funext l r
  unfold cwE
  simp
/-- the count of largest matchings -/
theorem ways_eq {E : Nat → Nat → Bool} {nl nr p : Nat} (hnr : nr ≤ 12) : swt (wys E nr nl) p (2 ^ nr) = swt (wyr (cwE E none none none) nr nl) p (2 ^ nr) := by
  rw [cwE_none]
  exact swt_congr _ (fun x hx => by rw [wys_wf hnr nl x hx, wyr_wf hnr nl x hx])
