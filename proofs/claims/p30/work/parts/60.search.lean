/-! the search finds a longer matching, or shows that there is none -/
/-- how many left nodes have a partner -/
def sz (nl : Nat) (mL : Nat → Option Nat) : Nat := cnt nl (fun z => (mL z).isSome)
/-- no matching has more than n edges -/
def LMx (nl nr : Nat) (E : Nat → Nat → Bool) (n : Nat) : Prop := ∀ aL aR, MT nl nr E aL aR → sz nl aL ≤ n
def EB (nl nr : Nat) (E : Nat → Nat → Bool) : Prop := ∀ a b, E a b = true → a < nl ∧ b < nr
theorem cnt_out {q : Nat → Bool} {y : Nat} (hq : q y = true) : ∀ n, y < n → cnt n (fun z => q z && !decide (z = y)) + 1 = cnt n q
  | 0, h => absurd h (Nat.not_lt_zero _)
  | n + 1, h => by
    rw [cnt, cnt]
    by_cases e : n = y
    · subst e
      have e1 : cnt n (fun z => q z && !decide (z = n)) = cnt n q := cnt_congr (fun i hi => by simp; omega)
      rw [e1, hq]
      simp
    · have ih := cnt_out hq n (by omega)
      have e2 : (q n && !decide (n = y)) = q n := by simp [e]
      rw [e2]
      omega
theorem cnt_inj : ∀ (k n : Nat) (p q : Nat → Bool) (f : Nat → Nat), (∀ z, z < k → p z = true → f z < n ∧ q (f z) = true) → (∀ z w, z < k → w < k → p z = true → p w = true → f z = f w → z = w) → cnt k p ≤ cnt n q
  | 0, n, p, q, f, _, _ => Nat.zero_le _
  | k + 1, n, p, q, f, h1, h2 => by
    rw [cnt]
    by_cases pk : p k = true
    · have hk := h1 k (by omega) pk
      have ih := cnt_inj k n p (fun z => q z && !decide (z = f k)) f (fun z hz pz => ⟨(h1 z (by omega) pz).1, by
        have a := (h1 z (by omega) pz).2
        have b : ¬ f z = f k := fun e => by have := h2 z k (by omega) (by omega) pz pk e; omega
        simp [a, b]⟩) (fun z w hz hw => h2 z w (by omega) (by omega))
      have := cnt_out hk.2 n hk.1
      rw [if_pos pk]
      omega
    · rw [if_neg pk]
      exact cnt_inj k n p q f (fun z hz => h1 z (by omega)) (fun z w hz hw => h2 z w (by omega) (by omega))
/-- a set of left nodes that shows that a matching is a largest one -/
theorem cert {nl nr : Nat} {E : Nat → Nat → Bool} {mL mR : Nat → Option Nat} (hm : MT nl nr E mL mR) (Sx : Nat → Bool) (h1 : ∀ l, l < nl → mL l = none → Sx l = true) (h2 : ∀ l r, Sx l = true → E l r = true → ∃ l', mR r = some l' ∧ Sx l' = true) : LMx nl nr E (sz nl mL) := by
  intro aL aR ha
  refine cnt_inj nl nl _ _ (fun l => if Sx l then (match aL l with
    | none => l
    | some r => match mR r with
      | none => l
      | some l' => l') else l) (fun z hz pz => ?_) (fun z w hz hw pz pw e => ?_)
  · obtain ⟨r, hr⟩ := Option.isSome_iff_exists.mp pz
    have hE := (ha.1 z r hr).2.2.1
    by_cases s : Sx z = true
    · obtain ⟨l', hl, -⟩ := h2 z r s hE
      simp only [s, if_true, hr, hl]
      have := hm.r hl
      exact ⟨this.1, by rw [this.2.2.2]; rfl⟩
    · simp only [s]
      refine ⟨hz, ?_⟩
      cases k : mL z with
      | none => exact absurd (h1 z hz k) s
      | some v => simp [k]
  · obtain ⟨r, hr⟩ := Option.isSome_iff_exists.mp pz
    obtain ⟨r2, hr2⟩ := Option.isSome_iff_exists.mp pw
    have hE := (ha.1 z r hr).2.2.1
    have hE2 := (ha.1 w r2 hr2).2.2.1
    by_cases s : Sx z = true
    · obtain ⟨l', hl, hs⟩ := h2 z r s hE
      by_cases s2 : Sx w = true
      · obtain ⟨l2, hl2, -⟩ := h2 w r2 s2 hE2
        simp only [s, s2, if_true, hr, hl, hr2, hl2] at e
        subst e
        have a := (hm.r hl).2.2.2
        have b := (hm.r hl2).2.2.2
        rw [a] at b
        cases b
        have c := (ha.1 z r hr).2.2.2
        have d := (ha.1 w r hr2).2.2.2
        rw [c] at d
        exact Option.some.inj d
      · simp only [s, s2, if_true, hr, hl] at e
        exfalso
        apply s2
        have e : l' = w := e
        rw [← e]; exact hs
    · by_cases s2 : Sx w = true
      · obtain ⟨l2, hl2, hs⟩ := h2 w r2 s2 hE2
        simp only [s, s2, if_true, hr2, hl2] at e
        exfalso
        apply s
        have e : z = l2 := e
        rw [e]; exact hs
      · simp only [s, s2] at e
        exact e
/-- what the search holds before it looks from place h of the queue at right node j -/
def BI (nl nr : Nat) (E : Nat → Nat → Bool) (mL mR : Nat → Option Nat) (h j : Nat) (t : TQ) : Prop :=
  QI nl mL t ∧ (∀ r l, t.1 r = some l → r < nr ∧ E l r = true ∧ ∃ i, i < t.2.2 ∧ i ≤ h ∧ t.2.1 i = l) ∧ (∀ i r, i < t.2.2 → mL (t.2.1 i) = some r → ∃ i', i' < i ∧ t.1 r = some (t.2.1 i')) ∧ (∀ l, l < nl → mL l = none → ∃ i, i < t.2.2 ∧ t.2.1 i = l) ∧
  (∀ i r, i < t.2.2 → (i < h ∨ (i = h ∧ r < j)) → E (t.2.1 i) r = true → r < nr → t.1 r ≠ none) ∧ (∀ r l, t.1 r = some l → ∃ l', mR r = some l' ∧ ∃ i, i < t.2.2 ∧ t.2.1 i = l')
theorem up_at {α : Type} (f : Nat → α) (i : Nat) (v : α) : va_up f i v i = v := by unfold va_up; rw [if_pos rfl]
theorem up_ne {α : Type} (f : Nat → α) {i k : Nat} (v : α) (h : ¬ k = i) : va_up f i v k = f k := by unfold va_up; rw [if_neg h]
/-- where the search has found a free right node -/
def FD (nl nr : Nat) (E : Nat → Nat → Bool) (mL mR : Nat → Option Nat) (r : Nat) (t : TQ) : Prop :=
  mR r = none ∧ r < nr ∧ (∀ r l, t.1 r = some l → r < nr ∧ E l r = true ∧ l < nl ∧ ∃ i, i < t.2.2 ∧ t.2.1 i = l) ∧ (∀ i r, i < t.2.2 → mL (t.2.1 i) = some r → ∃ i', i' < i ∧ t.1 r = some (t.2.1 i')) ∧ (∀ i j, i < j → j < t.2.2 → t.2.1 i ≠ t.2.1 j) ∧ t.2.2 ≤ nl ∧ ∃ l, t.1 r = some l
theorem lkr_BI {nl nr : Nat} {E : Nat → Nat → Bool} {mL mR : Nat → Option Nat} (hm : MT nl nr E mL mR) {h x : Nat} : ∀ (n j : Nat) (t : TQ), n + j = nr → h < t.2.2 → t.2.1 h = x → BI nl nr E mL mR h j t →
    ((lkr E mR x n j t).1 = none → BI nl nr E mL mR h nr (lkr E mR x n j t).2 ∧ h < (lkr E mR x n j t).2.2.2) ∧ (∀ r, (lkr E mR x n j t).1 = some r → FD nl nr E mL mR r (lkr E mR x n j t).2)
  | 0, j, t, hn, hh, hx, hB => by
    have e : j = nr := by omega
    subst e
    exact ⟨fun _ => ⟨hB, hh⟩, fun r h => by cases h⟩
  | n + 1, j, t, hn, hh, hx, hB => by
    have hB0 := hB
    obtain ⟨b1, b2, b3, b4, b5, b6⟩ := hB
    have hxl : x < nl := by rw [← hx]; exact (b1.1 h hh).1
    rw [lkr]
    by_cases q : (E x j && (t.1 j).isNone) = true
    · rw [if_pos q]
      rw [Bool.and_eq_true, Option.isNone_iff_eq_none] at q
      cases k : mR j with
      | none =>
        refine ⟨(fun z => by cases z), fun r hr => ?_⟩
        cases hr
        refine ⟨k, by omega, fun r l hr => ?_, fun i r hi hr => ?_, b1.2.1, b1.le, x, up_at _ _ _⟩
        · by_cases e : r = j
          · subst e
            have hr : va_up t.1 r (some x) r = some l := hr
            rw [up_at] at hr
            cases hr
            exact ⟨by omega, q.1, hxl, h, hh, hx⟩
          · have hr : va_up t.1 j (some x) r = some l := hr
            rw [up_ne _ _ e] at hr
            obtain ⟨a, b, i, c, d, f⟩ := b2 r l hr
            exact ⟨a, b, b1.2.2 r l hr, i, c, f⟩
        · obtain ⟨i', a, b⟩ := b3 i r hi hr
          refine ⟨i', a, ?_⟩
          show va_up t.1 j (some x) r = _
          rw [up_ne]
          · exact b
          · intro e; rw [e, q.2] at b; cases b
      | some y =>
        have ky := hm.r k
        refine lkr_BI hm n (j + 1) _ (by omega) (Nat.lt_succ_of_lt hh) (by show va_up t.2.1 t.2.2 y h = x; rw [up_ne _ _ (by omega)]; exact hx) ⟨b1.step ky.1 ky.2.2.2 q.2 hxl, fun r l hr => ?_, fun i r hi hr => ?_, fun l hl hf => ?_, fun i r hi hc he hr => ?_, fun r l hr => ?_⟩
        · have hr : va_up t.1 j (some x) r = some l := hr
          by_cases e : r = j
          · subst e
            rw [up_at] at hr
            cases hr
            exact ⟨by omega, q.1, h, Nat.lt_succ_of_lt hh, Nat.le_refl _, by show va_up t.2.1 t.2.2 y h = _; rw [up_ne _ _ (by omega)]; exact hx⟩
          · rw [up_ne _ _ e] at hr
            obtain ⟨a, b, i, c, d, f⟩ := b2 r l hr
            exact ⟨a, b, i, Nat.lt_succ_of_lt c, d, by show va_up t.2.1 t.2.2 y i = _; rw [up_ne _ _ (by omega)]; exact f⟩
        · have hi : i < t.2.2 + 1 := hi
          have hr : mL (va_up t.2.1 t.2.2 y i) = some r := hr
          by_cases e : i = t.2.2
          · subst e
            rw [up_at, ky.2.2.2] at hr
            cases hr
            refine ⟨h, hh, ?_⟩
            show va_up t.1 j (some x) j = some (va_up t.2.1 t.2.2 y h)
            rw [up_at, up_ne _ _ (by omega), hx]
          · rw [up_ne _ _ e] at hr
            obtain ⟨i', a, b⟩ := b3 i r (by omega) hr
            refine ⟨i', a, ?_⟩
            show va_up t.1 j (some x) r = some (va_up t.2.1 t.2.2 y i')
            have e9 : ¬ r = j := fun e2 => by rw [e2, q.2] at b; cases b
            rw [up_ne t.1 _ e9, up_ne t.2.1 _ (show ¬ i' = t.2.2 by omega)]
            exact b
        · obtain ⟨i, a, b⟩ := b4 l hl hf
          exact ⟨i, Nat.lt_succ_of_lt a, by show va_up t.2.1 t.2.2 y i = l; rw [up_ne _ _ (by omega)]; exact b⟩
        · have hi : i < t.2.2 + 1 := hi
          have he : E (va_up t.2.1 t.2.2 y i) r = true := he
          show va_up t.1 j (some x) r ≠ none
          by_cases e : r = j
          · subst e; rw [up_at]; intro z; cases z
          · rw [up_ne _ _ e]
            rw [up_ne _ _ (by omega)] at he
            exact b5 i r (by omega) (by omega) he hr
        · have hr : va_up t.1 j (some x) r = some l := hr
          by_cases e : r = j
          · subst e
            exact ⟨y, k, t.2.2, Nat.lt_succ_self _, up_at _ _ _⟩
          · rw [up_ne _ _ e] at hr
            obtain ⟨l', a, i, b, d⟩ := b6 r l hr
            exact ⟨l', a, i, Nat.lt_succ_of_lt b, by show va_up t.2.1 t.2.2 y i = _; rw [up_ne _ _ (by omega)]; exact d⟩
    · rw [if_neg q]
      refine lkr_BI hm n (j + 1) t (by omega) hh hx ⟨b1, b2, b3, b4, fun i r hi hc he hr => ?_, b6⟩
      by_cases e : i = h ∧ r = j
      · obtain ⟨rfl, rfl⟩ := e
        intro z
        apply q
        rw [hx] at he
        rw [he, z]
        rfl
      · exact b5 i r hi (by omega) he hr
theorem bfs_BI {nl nr : Nat} {E : Nat → Nat → Bool} {mL mR : Nat → Option Nat} (hm : MT nl nr E mL mR) (hnl : nl ≤ 12) : ∀ (n h : Nat) (t : TQ), n + h = 13 → h ≤ t.2.2 → BI nl nr E mL mR h 0 t →
    ((bfs E mR nr n h t).1 = none → ∃ h2, BI nl nr E mL mR h2 0 (bfs E mR nr n h t).2 ∧ (bfs E mR nr n h t).2.2.2 ≤ h2) ∧ (∀ r, (bfs E mR nr n h t).1 = some r → FD nl nr E mL mR r (bfs E mR nr n h t).2)
  | 0, h, t, hn, hh, hB => by
    have := hB.1.le
    omega
  | n + 1, h, t, hn, hh, hB => by
    rw [bfs]
    by_cases q : h < t.2.2
    · rw [if_pos q]
      have k := lkr_BI hm (x := t.2.1 h) nr 0 t (by omega) q rfl hB
      generalize lkr E mR (t.2.1 h) nr 0 t = z at k ⊢
      obtain ⟨a, b⟩ := z
      cases a with
      | none =>
        obtain ⟨k1, k2⟩ := k.1 rfl
        have k2 : h < b.2.2 := k2
        have k1 : BI nl nr E mL mR h nr b := k1
        obtain ⟨c1, c2, c3, c4, c5, c6⟩ := k1
        exact bfs_BI hm hnl n (h + 1) b (by omega) k2 ⟨c1, fun r l hr => by obtain ⟨x1, x2, i, x3, x4, x5⟩ := c2 r l hr; exact ⟨x1, x2, i, x3, by omega, x5⟩, c3, c4, fun i r hi hc he hr => c5 i r hi (by omega) he hr, c6⟩
      | some r => exact ⟨(fun z => by cases z), fun r2 hr => by cases hr; exact k.2 r rfl⟩
    · rw [if_neg q]
      exact ⟨fun _ => ⟨h, hB, Nat.le_of_not_lt q⟩, fun r hr => by cases hr⟩
theorem srch_BI {nl nr : Nat} {E : Nat → Nat → Bool} {mL mR : Nat → Option Nat} (hm : MT nl nr E mL mR) (hnl : nl ≤ 12) (q0 : Nat → Nat) :
    ((srch E mL mR nl nr q0).1 = none → ∃ h2, BI nl nr E mL mR h2 0 (srch E mL mR nl nr q0).2 ∧ (srch E mL mR nl nr q0).2.2.2 ≤ h2) ∧ (∀ r, (srch E mL mR nl nr q0).1 = some r → FD nl nr E mL mR r (srch E mL mR nl nr q0).2) := by
  refine bfs_BI hm hnl 13 0 _ rfl (Nat.zero_le _) ⟨QI_start mL q0 nl, (fun r l h => by cases h), fun i r hi hr => ?_, fun l hl hf => ?_, fun i r hi hc => ?_, fun r l h => by cases h⟩
  · rw [(fqs_in mL q0 nl i hi).2] at hr; cases hr
  · show ∃ i, i < (fqs mL q0 nl).1 ∧ (fqs mL q0 nl).2 i = l
    clear hm
    revert hl
    generalize nl = n
    induction n with
    | zero => intro hl; omega
    | succ n ih =>
      intro hl
      by_cases z : (mL n).isNone = true
      · rw [fqs_yes z]
        by_cases e : l = n
        · subst e
          exact ⟨(fqs mL q0 l).1, Nat.lt_succ_self _, up_at _ _ _⟩
        · obtain ⟨i, a, b⟩ := ih (by omega)
          exact ⟨i, Nat.lt_succ_of_lt a, by show va_up _ _ _ i = l; rw [up_ne _ _ (by omega)]; exact b⟩
      · have z : (mL n).isNone = false := by
          cases k9 : (mL n).isNone with
          | true => exact absurd k9 z
          | false => rfl
        rw [fqs_no z]
        exact ih (by
          have : ¬ l = n := fun e => by rw [← e, hf] at z; cases z
          omega)
  · omega
theorem srch_none {nl nr : Nat} {E : Nat → Nat → Bool} {mL mR : Nat → Option Nat} (hm : MT nl nr E mL mR) (hnl : nl ≤ 12) (hE : EB nl nr E) {q0 : Nat → Nat} (h : (srch E mL mR nl nr q0).1 = none) : LMx nl nr E (sz nl mL) := by
  obtain ⟨h2, hB, hw⟩ := (srch_BI hm hnl q0).1 h
  generalize (srch E mL mR nl nr q0).2 = t at hB hw
  obtain ⟨b1, b2, b3, b4, b5, b6⟩ := hB
  refine cert hm (fun l => ex t.2.2 (fun i => decide (t.2.1 i = l))) (fun l hl hf => ?_) (fun l r hs he => ?_)
  · obtain ⟨i, a, b⟩ := b4 l hl hf
    exact ex_iff.mpr ⟨i, a, decide_eq_true b⟩
  · obtain ⟨i, a, b⟩ := ex_iff.mp hs
    have b := of_decide_eq_true b
    have k := b5 i r a (Or.inl (by omega)) (by rw [b]; exact he) (hE l r he).2
    obtain ⟨v, hv⟩ := some_of k
    obtain ⟨l', c, i', d, f⟩ := b6 r v hv
    exact ⟨l', c, ex_iff.mpr ⟨i', d, decide_eq_true f⟩⟩
theorem chn_none (lf mL : Nat → Option Nat) : ∀ n, chn lf n mL none
  | 0 => rfl
  | _ + 1 => trivial
theorem chn_mono {lf : Nat → Option Nat} : ∀ {n k : Nat} {mL : Nat → Option Nat} {o : Option Nat}, n ≤ k → chn lf n mL o → chn lf k mL o
  | 0, k, mL, o, _, h => by
    have h : o = none := h
    rw [h]
    exact chn_none lf mL k
  | n + 1, k, mL, none, _, _ => chn_none lf mL k
  | n + 1, 0, mL, some r, hk, _ => by omega
  | n + 1, k + 1, mL, some r, hk, h => by
    obtain ⟨l, a, b, c, d⟩ := h
    exact ⟨l, a, b, c, chn_mono (by omega) d⟩
theorem FD_chn {nl nr r0 : Nat} {E : Nat → Nat → Bool} {mL mR : Nat → Option Nat} {t : TQ} (hnl : nl ≤ 12) (hnr : nr ≤ 12) (h : FD nl nr E mL mR r0 t) : ∀ (i r : Nat) (m1 : Nat → Option Nat), i < t.2.2 → t.1 r = some (t.2.1 i) → (∀ j, j ≤ i → m1 (t.2.1 j) = mL (t.2.1 j)) → chn t.1 (i + 1) m1 (some r) := by
  obtain ⟨-, -, h2, h3, h4, -, -⟩ := h
  intro i
  induction i using Nat.strongRecOn with
  | _ i ih =>
    intro r m1 hi hr hm1
    have k := h2 r _ hr
    refine ⟨t.2.1 i, hr, by omega, by omega, ?_⟩
    rw [hm1 i (Nat.le_refl _)]
    cases z : mL (t.2.1 i) with
    | none => exact chn_none _ _ _
    | some r' =>
      obtain ⟨i', a, b⟩ := h3 i r' hi z
      refine chn_mono (n := i' + 1) (by omega) (ih i' a r' _ (by omega) b (fun j hj => ?_))
      rw [up_ne _ _ (h4 j i (by omega) hi)]
      exact hm1 j (by omega)
theorem srch_chn {nl nr : Nat} {E : Nat → Nat → Bool} {mL mR : Nat → Option Nat} (hm : MT nl nr E mL mR) (hnl : nl ≤ 12) (hnr : nr ≤ 12) (q0 : Nat → Nat) : chn (srch E mL mR nl nr q0).2.1 12 mL (srch E mL mR nl nr q0).1 := by
  cases h : (srch E mL mR nl nr q0).1 with
  | none => exact chn_none _ _ _
  | some r =>
    have k := (srch_BI hm hnl q0).2 r h
    have k2 := k
    obtain ⟨-, -, h2, -, -, hw, l, hl⟩ := k2
    obtain ⟨-, -, -, i, hi, hq⟩ := h2 r l hl
    exact chn_mono (n := i + 1) (by omega) (FD_chn hnl hnr k i r mL hi (by rw [hq]; exact hl) (fun _ _ => rfl))
/-- a matching but for one right node, which counts as free -/
def MTx (nl nr : Nat) (E : Nat → Nat → Bool) (mL mR : Nat → Option Nat) (r : Nat) : Prop := (∀ l r0, mL l = some r0 → l < nl ∧ r0 < nr ∧ E l r0 = true ∧ ¬ r0 = r ∧ mR r0 = some l) ∧ (∀ r0 l, ¬ r0 = r → mR r0 = some l → mL l = some r0)
theorem cnt_set {q : Nat → Bool} {l : Nat} : ∀ n, l < n → cnt n (fun z => q z || decide (z = l)) = cnt n q + (if q l then 0 else 1)
  | 0, h => absurd h (Nat.not_lt_zero _)
  | n + 1, h => by
    rw [cnt, cnt]
    by_cases e : n = l
    · subst e
      have e1 : cnt n (fun z => q z || decide (z = n)) = cnt n q := cnt_congr (fun i hi => by
        have : ¬ i = n := by omega
        simp [this])
      rw [e1]
      cases q n <;> simp
    · have ih := cnt_set (q := q) n (show l < n by omega)
      have e2 : (q n || decide (n = l)) = q n := by simp [e]
      rw [e2]
      omega
theorem sz_up {nl l r : Nat} {mL : Nat → Option Nat} (hl : l < nl) : sz nl (va_up mL l (some r)) = sz nl mL + (if (mL l).isSome then 0 else 1) := by
  unfold sz
  rw [← cnt_set nl hl]
  refine cnt_congr (fun i _ => ?_)
  unfold va_up
  by_cases e : i = l <;> simp [e]
theorem flp_ok {nl nr : Nat} {E : Nat → Nat → Bool} {lf : Nat → Option Nat} (hlf : ∀ r l, lf r = some l → r < nr ∧ E l r = true ∧ l < nl) : ∀ (n : Nat) (m1 m2 : Nat → Option Nat) (o : Option Nat), chn lf n m1 o → (∀ r, o = some r → MTx nl nr E m1 m2 r) → (o = none → MT nl nr E m1 m2) →
    MT nl nr E (flp lf n m1 m2 o).1 (flp lf n m1 m2 o).2 ∧ sz nl (flp lf n m1 m2 o).1 = sz nl m1 + (if o.isSome then 1 else 0)
  | n, m1, m2, none, _, _, h => by
    rw [flp_none]
    exact ⟨h rfl, rfl⟩
  | 0, m1, m2, some r, hc, _, _ => by cases hc
  | n + 1, m1, m2, some r, hc, hx, _ => by
    obtain ⟨l, a, b, c, d⟩ := hc
    obtain ⟨x1, x2⟩ := hx r rfl
    obtain ⟨e1, e2, e3⟩ := hlf r l a
    rw [flp, a]
    simp only
    have key : (∀ r', m1 l = some r' → MTx nl nr E (va_up m1 l (some r)) (va_up m2 r (some l)) r') ∧ (m1 l = none → MT nl nr E (va_up m1 l (some r)) (va_up m2 r (some l))) := by
      constructor
      · intro r' hr'
        have y := x1 l r' hr'
        refine ⟨fun l0 r0 h0 => ?_, fun r0 l0 hne h0 => ?_⟩
        · by_cases e : l0 = l
          · subst e
            rw [up_at] at h0
            cases h0
            exact ⟨e3, e1, e2, fun q => y.2.2.2.1 q.symm, up_at _ _ _⟩
          · rw [up_ne _ _ e] at h0
            obtain ⟨f1, f2, f3, f4, f5⟩ := x1 l0 r0 h0
            refine ⟨f1, f2, f3, fun q => ?_, by rw [up_ne _ _ f4]; exact f5⟩
            subst q
            have := y.2.2.2.2
            rw [f5] at this
            exact e (Option.some.inj this)
        · by_cases e : r0 = r
          · subst e
            rw [up_at] at h0
            cases h0
            exact up_at _ _ _
          · rw [up_ne _ _ e] at h0
            have g := x2 r0 l0 e h0
            rw [up_ne]
            · exact g
            · intro q
              subst q
              rw [hr'] at g
              exact hne (Option.some.inj g).symm
      · intro hl
        refine ⟨fun l0 r0 h0 => ?_, fun r0 l0 h0 => ?_⟩
        · by_cases e : l0 = l
          · subst e
            rw [up_at] at h0
            cases h0
            exact ⟨e3, e1, e2, up_at _ _ _⟩
          · rw [up_ne _ _ e] at h0
            obtain ⟨f1, f2, f3, f4, f5⟩ := x1 l0 r0 h0
            exact ⟨f1, f2, f3, by rw [up_ne _ _ f4]; exact f5⟩
        · by_cases e : r0 = r
          · subst e
            rw [up_at] at h0
            cases h0
            exact up_at _ _ _
          · rw [up_ne _ _ e] at h0
            have g := x2 r0 l0 e h0
            rw [up_ne]
            · exact g
            · intro q
              subst q
              rw [hl] at g
              cases g
    obtain ⟨k1, k2⟩ := flp_ok hlf n _ _ (m1 l) d key.1 key.2
    refine ⟨k1, ?_⟩
    rw [k2, sz_up e3]
    cases m1 l <;> simp
theorem srch_some {nl nr r : Nat} {E : Nat → Nat → Bool} {mL mR : Nat → Option Nat} (hm : MT nl nr E mL mR) (hnl : nl ≤ 12) (hnr : nr ≤ 12) {q0 : Nat → Nat} (h : (srch E mL mR nl nr q0).1 = some r) :
    MT nl nr E (flO (srch E mL mR nl nr q0) mL mR).1 (flO (srch E mL mR nl nr q0) mL mR).2 ∧ sz nl (flO (srch E mL mR nl nr q0) mL mR).1 = sz nl mL + 1 := by
  have k := (srch_BI hm hnl q0).2 r h
  have hc := srch_chn hm hnl hnr q0
  obtain ⟨k1, k2, k3, -, -, -, -⟩ := k
  have := flp_ok (nl := nl) (nr := nr) (E := E) (lf := (srch E mL mR nl nr q0).2.1) (fun r l hr => by obtain ⟨a, b, c, -⟩ := k3 r l hr; exact ⟨a, b, c⟩) 12 mL mR (srch E mL mR nl nr q0).1 hc (fun r2 hr2 => by
    rw [h] at hr2
    cases hr2
    refine ⟨fun l r0 h0 => ?_, fun r0 l _ h0 => hm.2 r0 l h0⟩
    obtain ⟨a, b, c, d⟩ := hm.1 l r0 h0
    exact ⟨a, b, c, (fun q => by subst q; rw [k1] at d; cases d), d⟩) (fun hn => by rw [h] at hn; cases hn)
  rw [h] at this
  unfold flO
  rw [h]
  exact this
