/-! the search and the phases, as functions -/
theorem fb_holes : ∀ (m n : Nat) (f : Nat → Nat), (∀ i, i < n → f i < m) → (∀ i j, i < j → j < n → f i ≠ f j) → n ≤ m := by
  intro m
  induction m with
  | zero =>
    intro n f h1 _
    rcases Nat.eq_zero_or_pos n with h | h
    · omega
    · exact absurd (h1 0 h) (Nat.not_lt_zero _)
  | succ m ih =>
    intro n f h1 h2
    by_cases hx : ∃ i, i < n ∧ f i = m
    · obtain ⟨a, ha, hfa⟩ := hx
      have hg := ih (n - 1) (fun i => if i < a then f i else f (i + 1)) (by
        intro i hi
        by_cases q : i < a
        · simp only [if_pos q]
          have b1 := h1 i (by omega)
          have b2 := h2 i a q ha
          omega
        · simp only [if_neg q]
          have b1 := h1 (i + 1) (by omega)
          have b2 := h2 a (i + 1) (by omega) (by omega)
          omega) (by
        intro i j hij hj
        by_cases q : i < a
        · by_cases r : j < a
          · simp only [if_pos q, if_pos r]
            exact h2 i j hij (by omega)
          · simp only [if_pos q, if_neg r]
            exact h2 i (j + 1) (by omega) (by omega)
        · have r : ¬ j < a := by omega
          simp only [if_neg q, if_neg r]
          exact h2 (i + 1) (j + 1) (by omega) (by omega))
      omega
    · have hg := ih n f (fun i hi => by
        have b1 := h1 i hi
        have b2 : f i ≠ m := fun e => hx ⟨i, hi, e⟩
        omega) h2
      omega
/-- a matching, by both sides -/
def MT (nl nr : Nat) (E : Nat → Nat → Bool) (mL mR : Nat → Option Nat) : Prop := (∀ l r, mL l = some r → l < nl ∧ r < nr ∧ E l r = true ∧ mR r = some l) ∧ (∀ r l, mR r = some l → mL l = some r)
theorem MT.r {nl nr : Nat} {E : Nat → Nat → Bool} {mL mR : Nat → Option Nat} (h : MT nl nr E mL mR) {r l : Nat} (k : mR r = some l) : l < nl ∧ r < nr ∧ E l r = true ∧ mL l = some r := by
  have a := h.2 r l k
  have b := h.1 l r a
  exact ⟨b.1, b.2.1, b.2.2.1, a⟩
/-- what a search holds: from where each right node was looked at, the queue, its length -/
abbrev TQ : Type := (Nat → Option Nat) × (Nat → Nat) × Nat
def QI (nl : Nat) (mL : Nat → Option Nat) (t : TQ) : Prop := (∀ i, i < t.2.2 → t.2.1 i < nl ∧ ∀ r, mL (t.2.1 i) = some r → t.1 r ≠ none) ∧ (∀ i j, i < j → j < t.2.2 → t.2.1 i ≠ t.2.1 j) ∧ (∀ r l, t.1 r = some l → l < nl)
theorem QI.le {nl : Nat} {mL : Nat → Option Nat} {t : TQ} (h : QI nl mL t) : t.2.2 ≤ nl := fb_holes nl t.2.2 t.2.1 (fun i hi => (h.1 i hi).1) h.2.1
theorem QI.lt {nl : Nat} {mL : Nat → Option Nat} {t : TQ} (h : QI nl mL t) {x r : Nat} (hx : x < nl) (hm : mL x = some r) (hr : t.1 r = none) : t.2.2 < nl := by
  have := fb_holes nl (t.2.2 + 1) (fun i => if i < t.2.2 then t.2.1 i else x) (fun i hi => by
    by_cases q : i < t.2.2
    · simp only [if_pos q]; exact (h.1 i q).1
    · simp only [if_neg q]; exact hx) (fun i j hij hj => by
    have qi : i < t.2.2 := by omega
    by_cases q : j < t.2.2
    · simp only [if_pos q, if_pos qi]; exact h.2.1 i j hij q
    · simp only [if_neg q, if_pos qi]
      intro e
      exact (h.1 i qi).2 r (by rw [e]; exact hm) hr)
  omega
theorem QI.step {nl : Nat} {mL : Nat → Option Nat} {t : TQ} (h : QI nl mL t) {x r l : Nat} (hx : x < nl) (hm : mL x = some r) (hr : t.1 r = none) (hl : l < nl) : QI nl mL (va_up t.1 r (some l), va_up t.2.1 t.2.2 x, t.2.2 + 1) := by
  refine ⟨fun i hi => ?_, fun i j hij hj => ?_, fun r2 l2 h2 => ?_⟩
  · have hi : i < t.2.2 + 1 := hi
    show va_up t.2.1 t.2.2 x i < nl ∧ ∀ r2, mL (va_up t.2.1 t.2.2 x i) = some r2 → va_up t.1 r (some l) r2 ≠ none
    unfold va_up
    by_cases e : i = t.2.2
    · simp only [if_pos e]
      refine ⟨hx, fun r2 h2 => ?_⟩
      rw [hm] at h2
      cases h2
      simp
    · simp only [if_neg e]
      have k := h.1 i (by omega)
      refine ⟨k.1, fun r2 h2 => ?_⟩
      by_cases e2 : r2 = r
      · simp [e2]
      · simp only [if_neg e2]
        exact k.2 r2 h2
  · have hj : j < t.2.2 + 1 := hj
    show va_up t.2.1 t.2.2 x i ≠ va_up t.2.1 t.2.2 x j
    unfold va_up
    rw [if_neg (show ¬ i = t.2.2 by omega)]
    by_cases e : j = t.2.2
    · rw [if_pos e]
      intro q
      exact (h.1 i (by omega)).2 r (by rw [q]; exact hm) hr
    · rw [if_neg e]
      exact h.2.1 i j hij (by omega)
  · have h2 : va_up t.1 r (some l) r2 = some l2 := h2
    unfold va_up at h2
    by_cases e : r2 = r
    · rw [if_pos e] at h2
      cases h2
      exact hl
    · rw [if_neg e] at h2
      exact h.2.2 r2 l2 h2
/-- the right nodes of one left node, in ascending order -/
def lkr (E : Nat → Nat → Bool) (mR : Nat → Option Nat) (l : Nat) : Nat → Nat → TQ → Option Nat × TQ
  | 0, _, t => (none, t)
  | n + 1, r, t => if E l r && (t.1 r).isNone then
      match mR r with
      | none => (some r, (va_up t.1 r (some l), t.2.1, t.2.2))
      | some x => lkr E mR l n (r + 1) (va_up t.1 r (some l), va_up t.2.1 t.2.2 x, t.2.2 + 1)
    else lkr E mR l n (r + 1) t
theorem lkr_skip {E : Nat → Nat → Bool} {mR : Nat → Option Nat} {l nr r : Nat} {t : TQ} (h : r < nr) (q : ¬ (E l r = true ∧ t.1 r = none)) : lkr E mR l (nr - r) r t = lkr E mR l (nr - (r + 1)) (r + 1) t := by
  rw [show nr - r = (nr - (r + 1)) + 1 by omega, lkr, if_neg]
  intro k
  rw [Bool.and_eq_true, Option.isNone_iff_eq_none] at k
  exact q k
theorem lkr_found {E : Nat → Nat → Bool} {mR : Nat → Option Nat} {l nr r : Nat} {t : TQ} (h : r < nr) (e : E l r = true) (q : t.1 r = none) (k : mR r = none) : lkr E mR l (nr - r) r t = (some r, (va_up t.1 r (some l), t.2.1, t.2.2)) := by
  rw [show nr - r = (nr - (r + 1)) + 1 by omega, lkr, if_pos (by simp [e, q]), k]
theorem lkr_queue {E : Nat → Nat → Bool} {mR : Nat → Option Nat} {l nr r x : Nat} {t : TQ} (h : r < nr) (e : E l r = true) (q : t.1 r = none) (k : mR r = some x) : lkr E mR l (nr - r) r t = lkr E mR l (nr - (r + 1)) (r + 1) (va_up t.1 r (some l), va_up t.2.1 t.2.2 x, t.2.2 + 1) := by
  rw [show nr - r = (nr - (r + 1)) + 1 by omega, lkr, if_pos (by simp [e, q]), k]
theorem lkr_end {E : Nat → Nat → Bool} {mR : Nat → Option Nat} {l nr r : Nat} {t : TQ} (h : nr ≤ r) : lkr E mR l (nr - r) r t = (none, t) := by
  rw [show nr - r = 0 by omega, lkr]
/-- the whole of a search from the queue's place h on -/
def bfs (E : Nat → Nat → Bool) (mR : Nat → Option Nat) (nr : Nat) : Nat → Nat → TQ → Option Nat × TQ
  | 0, _, t => (none, t)
  | f + 1, h, t => if h < t.2.2 then
      match lkr E mR (t.2.1 h) nr 0 t with
      | (some r, t2) => (some r, t2)
      | (none, t2) => bfs E mR nr f (h + 1) t2
    else (none, t)
/-- the free left nodes in the queue -/
def fqs (mL : Nat → Option Nat) (q : Nat → Nat) : Nat → Nat × (Nat → Nat)
  | 0 => (0, q)
  | n + 1 => if (mL n).isNone then ((fqs mL q n).1 + 1, va_up (fqs mL q n).2 (fqs mL q n).1 n) else fqs mL q n
theorem fqs_le (mL : Nat → Option Nat) (q : Nat → Nat) : ∀ n, (fqs mL q n).1 ≤ n
  | 0 => Nat.le_refl _
  | n + 1 => by
    have h := fqs_le mL q n
    rw [fqs]
    by_cases z : (mL n).isNone = true
    · rw [if_pos z]
      show (fqs mL q n).1 + 1 ≤ n + 1
      omega
    · rw [if_neg z]; omega
/-- the matching changed along a path -/
def flp (lf : Nat → Option Nat) : Nat → (Nat → Option Nat) → (Nat → Option Nat) → Option Nat → (Nat → Option Nat) × (Nat → Option Nat)
  | 0, mL, mR, _ => (mL, mR)
  | _ + 1, mL, mR, none => (mL, mR)
  | n + 1, mL, mR, some r => match lf r with
    | none => (mL, mR)
    | some l => flp lf n (va_up mL l (some r)) (va_up mR r (some l)) (mL l)
def srch (E : Nat → Nat → Bool) (mL mR : Nat → Option Nat) (nl nr : Nat) (q0 : Nat → Nat) : Option Nat × TQ := bfs E mR nr 13 0 (fun _ => none, (fqs mL q0 nl).2, (fqs mL q0 nl).1)
theorem fqs_in (mL : Nat → Option Nat) (q : Nat → Nat) : ∀ n i, i < (fqs mL q n).1 → (fqs mL q n).2 i < n ∧ mL ((fqs mL q n).2 i) = none
  | 0, i, h => absurd h (Nat.not_lt_zero _)
  | n + 1, i, h => by
    have ih := fqs_in mL q n
    rw [fqs] at h ⊢
    by_cases z : (mL n).isNone = true
    · rw [if_pos z] at h ⊢
      show va_up (fqs mL q n).2 (fqs mL q n).1 n i < n + 1 ∧ mL (va_up (fqs mL q n).2 (fqs mL q n).1 n i) = none
      have h : i < (fqs mL q n).1 + 1 := h
      unfold va_up
      by_cases e : i = (fqs mL q n).1
      · rw [if_pos e]
        exact ⟨by omega, by simpa using z⟩
      · rw [if_neg e]
        have := ih i (by omega)
        exact ⟨by omega, this.2⟩
    · rw [if_neg z] at h ⊢
      have := ih i h
      exact ⟨by omega, this.2⟩
theorem fqs_apart (mL : Nat → Option Nat) (q : Nat → Nat) : ∀ n i j, i < j → j < (fqs mL q n).1 → (fqs mL q n).2 i ≠ (fqs mL q n).2 j
  | 0, i, j, _, h => absurd h (Nat.not_lt_zero _)
  | n + 1, i, j, hij, h => by
    have ih := fqs_apart mL q n
    rw [fqs] at h ⊢
    by_cases z : (mL n).isNone = true
    · rw [if_pos z] at h ⊢
      show va_up (fqs mL q n).2 (fqs mL q n).1 n i ≠ va_up (fqs mL q n).2 (fqs mL q n).1 n j
      have h : j < (fqs mL q n).1 + 1 := h
      unfold va_up
      rw [if_neg (show ¬ i = (fqs mL q n).1 by omega)]
      by_cases e : j = (fqs mL q n).1
      · rw [if_pos e]
        have := (fqs_in mL q n i (by omega)).1
        omega
      · rw [if_neg e]
        exact ih i j hij (by omega)
    · rw [if_neg z] at h ⊢
      exact ih i j hij h
theorem QI_start (mL : Nat → Option Nat) (q : Nat → Nat) (n : Nat) : QI n mL (fun _ => none, (fqs mL q n).2, (fqs mL q n).1) :=
  ⟨fun i hi => ⟨(fqs_in mL q n i hi).1, fun r h => by rw [(fqs_in mL q n i hi).2] at h; cases h⟩, fun i j hij hj => fqs_apart mL q n i j hij hj, fun r l h => by cases h⟩
theorem lkr_QI {nl nr : Nat} {E : Nat → Nat → Bool} {mL mR : Nat → Option Nat} (hm : MT nl nr E mL mR) {l : Nat} (hl : l < nl) : ∀ (n r : Nat) (t : TQ), QI nl mL t → (∀ r2 l2, (lkr E mR l n r t).2.1 r2 = some l2 → l2 < nl) ∧ ((lkr E mR l n r t).1 = none → QI nl mL (lkr E mR l n r t).2)
  | 0, r, t, h => ⟨h.2.2, fun _ => h⟩
  | n + 1, r, t, h => by
    rw [lkr]
    by_cases q : (E l r && (t.1 r).isNone) = true
    · rw [if_pos q]
      rw [Bool.and_eq_true, Option.isNone_iff_eq_none] at q
      cases k : mR r with
      | none =>
        refine ⟨fun r2 l2 h2 => ?_, fun z => by cases z⟩
        have h2 : va_up t.1 r (some l) r2 = some l2 := h2
        unfold va_up at h2
        by_cases e : r2 = r
        · rw [if_pos e] at h2; cases h2; exact hl
        · rw [if_neg e] at h2; exact h.2.2 r2 l2 h2
      | some x =>
        have kx := hm.r k
        exact lkr_QI hm hl n (r + 1) _ (h.step kx.1 kx.2.2.2 q.2 hl)
    · rw [if_neg q]
      exact lkr_QI hm hl n (r + 1) t h
theorem flp_none (lf : Nat → Option Nat) (n : Nat) (mL mR : Nat → Option Nat) : flp lf n mL mR none = (mL, mR) := by
  cases n <;> rfl
theorem flp_stop (lf : Nat → Option Nat) (n : Nat) (mL mR : Nat → Option Nat) {r : Nat} (h : lf r = none) : flp lf n mL mR (some r) = (mL, mR) := by
  cases n with
  | zero => rfl
  | succ n => rw [flp, h]
theorem flp_go (lf : Nat → Option Nat) {n i : Nat} (mL mR : Nat → Option Nat) {r l : Nat} (hi : i < n) (h : lf r = some l) : flp lf (n - i) mL mR (some r) = flp lf (n - (i + 1)) (va_up mL l (some r)) (va_up mR r (some l)) (mL l) := by
  rw [show n - i = (n - (i + 1)) + 1 by omega, flp, h]
theorem fqs_no {mL : Nat → Option Nat} {q : Nat → Nat} {n : Nat} (h : (mL n).isNone = false) : fqs mL q (n + 1) = fqs mL q n := by rw [fqs, if_neg (by rw [h]; decide)]
theorem fqs_yes {mL : Nat → Option Nat} {q : Nat → Nat} {n : Nat} (h : (mL n).isNone = true) : fqs mL q (n + 1) = ((fqs mL q n).1 + 1, va_up (fqs mL q n).2 (fqs mL q n).1 n) := by rw [fqs, if_pos h]
theorem up_bd {f : Nat → Option Nat} {b x y : Nat} (h : ∀ k v, f k = some v → v < b) (hy : y < b) : ∀ k v, va_up f x (some y) k = some v → v < b := by
  intro k v hv
  unfold va_up at hv
  by_cases e : k = x
  · rw [if_pos e] at hv; cases hv; exact hy
  · rw [if_neg e] at hv; exact h k v hv
def flO (S : Option Nat × TQ) (mL mR : Nat → Option Nat) : (Nat → Option Nat) × (Nat → Option Nat) := flp S.2.1 12 mL mR S.1
def dS (S : Option Nat × TQ) : Nat := match S.1 with
  | none => 0
  | some _ => 1
theorem bfs_end {E : Nat → Nat → Bool} {mR : Nat → Option Nat} {nr h : Nat} {t : TQ} (hh : h < 13) (q : t.2.2 ≤ h) : bfs E mR nr (13 - h) h t = (none, t) := by
  rw [show 13 - h = (12 - h) + 1 by omega, bfs, if_neg (by omega)]
theorem bfs_found {E : Nat → Nat → Bool} {mR : Nat → Option Nat} {nr h r : Nat} {t : TQ} (hh : h < 13) (q : h < t.2.2) (k : (lkr E mR (t.2.1 h) nr 0 t).1 = some r) : bfs E mR nr (13 - h) h t = (some r, (lkr E mR (t.2.1 h) nr 0 t).2) := by
  rw [show 13 - h = (12 - h) + 1 by omega, bfs, if_pos q]
  generalize lkr E mR (t.2.1 h) nr 0 t = z at k ⊢
  obtain ⟨a, b⟩ := z
  cases k
  rfl
theorem bfs_go {E : Nat → Nat → Bool} {mR : Nat → Option Nat} {nr h : Nat} {t : TQ} (hh : h < 13) (q : h < t.2.2) (k : (lkr E mR (t.2.1 h) nr 0 t).1 = none) : bfs E mR nr (13 - h) h t = bfs E mR nr (13 - (h + 1)) (h + 1) (lkr E mR (t.2.1 h) nr 0 t).2 := by
  rw [show 13 - h = (13 - (h + 1)) + 1 by omega, bfs, if_pos q]
  generalize lkr E mR (t.2.1 h) nr 0 t = z at k ⊢
  obtain ⟨a, b⟩ := z
  cases k
  rfl
theorem lkr_w {E : Nat → Nat → Bool} {mR : Nat → Option Nat} {l : Nat} : ∀ (n r : Nat) (t : TQ), t.2.2 ≤ (lkr E mR l n r t).2.2.2
  | 0, r, t => Nat.le_refl _
  | n + 1, r, t => by
    rw [lkr]
    by_cases q : (E l r && (t.1 r).isNone) = true
    · rw [if_pos q]
      cases k : mR r with
      | none => exact Nat.le_refl _
      | some x => exact Nat.le_trans (Nat.le_succ _) (lkr_w n (r + 1) (va_up t.1 r (some l), va_up t.2.1 t.2.2 x, t.2.2 + 1))
    · rw [if_neg q]
      exact lkr_w n (r + 1) t
theorem lkr_rt {E : Nat → Nat → Bool} {mR : Nat → Option Nat} {l v : Nat} : ∀ (n r : Nat) (t : TQ), (lkr E mR l n r t).1 = some v → v < r + n
  | 0, r, t, h => by cases h
  | n + 1, r, t, h => by
    rw [lkr] at h
    by_cases q : (E l r && (t.1 r).isNone) = true
    · rw [if_pos q] at h
      cases k : mR r with
      | none => rw [k] at h; cases h; omega
      | some x => rw [k] at h; have := lkr_rt n (r + 1) _ h; omega
    · rw [if_neg q] at h
      have := lkr_rt n (r + 1) t h
      omega
