/-! all phases, as functions -/
theorem lvp_keep {E : Nat → Nat → Bool} {bR : Nat → Option Nat} {nr d i z y : Nat} {lev : Nat → Option Nat} (h : lev z = some y) : lvp E bR nr d lev i z = some y := by
  unfold lvp
  rw [h]
theorem lvs_pred {E : Nat → Nat → Bool} {bL bR : Nat → Option Nat} {nl nr : Nat} : ∀ (n z v : Nat), lvs E bL bR nl nr n z = some (v + 1) → ∃ x, x < nl ∧ lvs E bL bR nl nr n x = some v
  | 0, z, v, h => by
    unfold lvs lv0 at h
    by_cases a : z < nl
    · rw [if_pos a] at h
      by_cases b : (bL z).isNone = true
      · rw [if_pos b] at h; cases h
      · rw [if_neg b] at h; cases h
    · rw [if_neg a] at h; cases h
  | n + 1, z, v, h => by
    have ih := lvs_pred (E := E) (bL := bL) (bR := bR) (nl := nl) (nr := nr) n z v
    unfold lvs at h
    cases k : lvs E bL bR nl nr n z with
    | some y =>
      rw [lvp_keep k] at h
      rw [h] at k
      obtain ⟨x, hx, hl⟩ := ih k
      exact ⟨x, hx, lvp_keep hl⟩
    | none =>
      unfold lvp at h
      rw [k] at h
      simp only at h
      split at h
      · rename_i q
        have e : n + 1 = v + 1 := Option.some.inj h
        obtain ⟨x, hx, hq⟩ := ex_iff.mp q
        rw [Bool.and_eq_true, beq_iff_eq] at hq
        refine ⟨x, hx, ?_⟩
        show lvp E bR nr n (lvs E bL bR nl nr n) nl x = some v
        rw [lvp_keep hq.1]
        congr 1
        omega
      · cases h
theorem lvs_in {E : Nat → Nat → Bool} {bL bR : Nat → Option Nat} {nl nr : Nat} (hb2 : ∀ r z, bR r = some z → z < nl) : ∀ (n z v : Nat), lvs E bL bR nl nr n z = some v → z < nl
  | 0, z, v, h => by
    unfold lvs lv0 at h
    by_cases a : z < nl
    · exact a
    · rw [if_neg a] at h; cases h
  | n + 1, z, v, h => by
    have ih := lvs_in (E := E) (bL := bL) (bR := bR) (nl := nl) (nr := nr) hb2 n z
    unfold lvs at h
    cases k : lvs E bL bR nl nr n z with
    | some y => exact ih y k
    | none =>
      unfold lvp at h
      rw [k] at h
      simp only at h
      split at h
      · rename_i q
        obtain ⟨x, hx, hq⟩ := ex_iff.mp q
        rw [Bool.and_eq_true] at hq
        obtain ⟨r, hr, hq2⟩ := ex_iff.mp hq.2
        rw [Bool.and_eq_true, beq_iff_eq] at hq2
        exact hb2 r z hq2.2
      · cases h
theorem lvs_down {E : Nat → Nat → Bool} {bL bR : Nat → Option Nat} {nl nr n : Nat} (hb2 : ∀ r z, bR r = some z → z < nl) : ∀ (d v z : Nat), lvs E bL bR nl nr n z = some (v + d) → ∃ x, x < nl ∧ lvs E bL bR nl nr n x = some v
  | 0, v, z, h => ⟨z, lvs_in hb2 n z _ h, h⟩
  | d + 1, v, z, h => by
    obtain ⟨x, hx, hl⟩ := lvs_pred n z (v + d) h
    exact lvs_down hb2 d v x hl
theorem lvs_lt {E : Nat → Nat → Bool} {bL bR : Nat → Option Nat} {nl nr n z v : Nat} (hb2 : ∀ r z, bR r = some z → z < nl) (h : lvs E bL bR nl nr n z = some v) : v < nl := by
  have hd : ∀ i, i < v + 1 → ∃ x, x < nl ∧ lvs E bL bR nl nr n x = some i := fun i hi => lvs_down hb2 (v - i) i z (by rw [show i + (v - i) = v by omega]; exact h)
  have := fb_holes nl (v + 1) (fun i => if q : i < v + 1 then (hd i q).choose else 0) (fun i hi => by
    simp only [dif_pos hi]
    exact (hd i hi).choose_spec.1) (fun i j hij hj => by
    have hi : i < v + 1 := by omega
    simp only [dif_pos hi, dif_pos hj]
    intro e
    have a := (hd i hi).choose_spec.2
    rw [e, (hd j hj).choose_spec.2] at a
    have := Option.some.inj a
    omega)
  omega
def LV (E : Nat → Nat → Bool) (b : (Nat → Option Nat) × (Nat → Option Nat)) (nl nr : Nat) : Nat → Option Nat := lvs E b.1 b.2 nl nr nl
theorem ldp_cg {lev lev2 : Nat → Option Nat} {g : Nat → Bool} : ∀ {n : Nat}, (∀ z, z < n → lev z = lev2 z) → ldp lev g n = ldp lev2 g n
  | 0, _ => rfl
  | n + 1, h => by rw [ldp, ldp, h n (by omega), ldp_cg (fun z hz => h z (by omega))]
theorem tkb_cg {tk : Nat → Bool} {bR lev lev2 : Nat → Option Nat} {dep lv r nl : Nat} (hb : ∀ r z, bR r = some z → z < nl) (h : ∀ z, z < nl → lev z = lev2 z) : tkb tk bR lev dep lv r = tkb tk bR lev2 dep lv r := by
  unfold tkb
  cases k : bR r with
  | none => rfl
  | some y => simp only; rw [h y (hb r y k)]
theorem fdr_cg {E : Nat → Nat → Bool} {lev lev2 : Nat → Option Nat} {dep nl : Nat} {rec rec2 : Nat → SG → Bool × SG} {x lv : Nat} (h : ∀ z, z < nl → lev z = lev2 z) (hx : x < nl)
    (hr : ∀ y t, (∀ r z, t.2.2 r = some z → z < nl) → y < nl → rec y t = rec2 y t) (hrb : ∀ y t, (∀ r z, t.2.2 r = some z → z < nl) → y < nl → ∀ r z, (rec y t).2.2.2 r = some z → z < nl) :
    ∀ (n j : Nat) (t : SG), (∀ r z, t.2.2 r = some z → z < nl) → fdr E lev dep rec x lv n j t = fdr E lev2 dep rec2 x lv n j t
  | 0, j, t, hb => rfl
  | n + 1, j, t, hb => by
    rw [fdr, fdr]
    have e : tak lev dep lv t j = tak lev2 dep lv t j := tkb_cg hb h
    rw [e]
    by_cases q : (E x j && tak lev2 dep lv t j) = true
    · rw [if_pos q, if_pos q]
      cases k : t.2.2 j with
      | none => rfl
      | some y =>
        have e2 := hr y (va_up t.1 j true, t.2.1, t.2.2) hb (hb j y k)
        have e3 := hrb y (va_up t.1 j true, t.2.1, t.2.2) hb (hb j y k)
        simp only
        rw [e2] at e3 ⊢
        generalize rec2 y (va_up t.1 j true, t.2.1, t.2.2) = v at e3 ⊢
        obtain ⟨a, b⟩ := v
        cases a with
        | true => rfl
        | false => exact fdr_cg h hx hr hrb n (j + 1) b e3
    · rw [if_neg q, if_neg q]
      exact fdr_cg h hx hr hrb n (j + 1) t hb
theorem fdp_cg {E : Nat → Nat → Bool} {lev lev2 : Nat → Option Nat} {dep nr nl : Nat} (h : ∀ z, z < nl → lev z = lev2 z) : ∀ {f x : Nat} {t : SG}, (∀ r z, t.2.2 r = some z → z < nl) → x < nl → fdp E lev dep nr f x t = fdp E lev2 dep nr f x t
  | 0, x, t, _, _ => rfl
  | f + 1, x, t, hb, hx => fdr_cg h hx (fun y t ht hy => fdp_cg h ht hy) (fun y t ht hy => fdp_bd ht hy) nr 0 t hb
theorem fps_no {E : Nat → Nat → Bool} {lev : Nat → Option Nat} {dep nr n : Nat} {t0 : SG} (h : ¬ lev n = some 0) : fps E lev dep nr t0 (n + 1) = fps E lev dep nr t0 n := by
  rw [fps, if_neg]
  intro q
  exact h (by simpa using q)
theorem fps_win {E : Nat → Nat → Bool} {lev : Nat → Option Nat} {dep nr n fo : Nat} {t0 t : SG} (h : lev n = some 0) (e : fps E lev dep nr t0 n = (fo, t)) (w : (fdp E lev dep nr (dep + 1) n t).1 = true) : fps E lev dep nr t0 (n + 1) = (fo + 1, (fdp E lev dep nr (dep + 1) n t).2) := by
  rw [fps, if_pos (by rw [h]; rfl), e]
  simp only
  generalize fdp E lev dep nr (dep + 1) n t = v at w ⊢
  obtain ⟨a, b⟩ := v
  cases w
  rfl
theorem fps_fail {E : Nat → Nat → Bool} {lev : Nat → Option Nat} {dep nr n fo : Nat} {t0 t : SG} (h : lev n = some 0) (e : fps E lev dep nr t0 n = (fo, t)) (w : (fdp E lev dep nr (dep + 1) n t).1 = false) : fps E lev dep nr t0 (n + 1) = (fo, (fdp E lev dep nr (dep + 1) n t).2) := by
  rw [fps, if_pos (by rw [h]; rfl), e]
  simp only
  generalize fdp E lev dep nr (dep + 1) n t = v at w ⊢
  obtain ⟨a, b⟩ := v
  cases w
  rfl
theorem fps_bd {E : Nat → Nat → Bool} {lev : Nat → Option Nat} {dep nr nl : Nat} {t0 : SG} (hb : ∀ r z, t0.2.2 r = some z → z < nl) : ∀ {n : Nat}, n ≤ nl → ∀ r z, (fps E lev dep nr t0 n).2.2.2 r = some z → z < nl
  | 0, _ => hb
  | n + 1, hn => by
    have ih := fps_bd (E := E) (lev := lev) (dep := dep) (nr := nr) hb (show n ≤ nl by omega)
    by_cases q : lev n = some 0
    · have h2 := fdp_bd (E := E) (lev := lev) (dep := dep) (nr := nr) (f := dep + 1) (x := n) ih (by omega)
      cases w : (fdp E lev dep nr (dep + 1) n (fps E lev dep nr t0 n).2).1 with
      | true => rw [fps_win q rfl w]; exact h2
      | false => rw [fps_fail q rfl w]; exact h2
    · rw [fps_no q]; exact ih
theorem fps_cg {E : Nat → Nat → Bool} {lev lev2 : Nat → Option Nat} {dep nr nl : Nat} {t0 : SG} (h : ∀ z, z < nl → lev z = lev2 z) (hb : ∀ r z, t0.2.2 r = some z → z < nl) : ∀ {n : Nat}, n ≤ nl → fps E lev dep nr t0 n = fps E lev2 dep nr t0 n
  | 0, _ => rfl
  | n + 1, hn => by
    have ih := fps_cg (E := E) (dep := dep) (nr := nr) h hb (show n ≤ nl by omega)
    have bd := fps_bd (E := E) (lev := lev2) (dep := dep) (nr := nr) hb (show n ≤ nl by omega)
    by_cases q : lev n = some 0
    · have q2 : lev2 n = some 0 := by rw [← h n (by omega)]; exact q
      have e := fdp_cg (E := E) (dep := dep) (nr := nr) (f := dep + 1) h bd (show n < nl by omega)
      cases w : (fdp E lev2 dep nr (dep + 1) n (fps E lev2 dep nr t0 n).2).1 with
      | true => rw [fps_win q2 rfl w, fps_win q ih (by rw [e]; exact w), e]
      | false => rw [fps_fail q2 rfl w, fps_fail q ih (by rw [e]; exact w), e]
    · have q2 : ¬ lev2 n = some 0 := by rw [← h n (by omega)]; exact q
      rw [fps_no q, fps_no q2, ih]
theorem fdr_bdL {E : Nat → Nat → Bool} {lev : Nat → Option Nat} {dep nr : Nat} {rec : Nat → SG → Bool × SG} {x lv : Nat} (hrec : ∀ y t, (∀ r z, t.2.1 r = some z → z < nr) → ∀ r z, (rec y t).2.2.1 r = some z → z < nr) :
    ∀ (n j : Nat) (t : SG), n + j ≤ nr → (∀ r z, t.2.1 r = some z → z < nr) → ∀ r z, (fdr E lev dep rec x lv n j t).2.2.1 r = some z → z < nr
  | 0, j, t, _, h => h
  | n + 1, j, t, hn, h => by
    rw [fdr]
    by_cases q : (E x j && tak lev dep lv t j) = true
    · rw [if_pos q]
      cases k : t.2.2 j with
      | none => exact up_bd h (by omega)
      | some y =>
        simp only
        have h2 := hrec y (va_up t.1 j true, t.2.1, t.2.2) h
        generalize rec y (va_up t.1 j true, t.2.1, t.2.2) = v at h2 ⊢
        obtain ⟨a, b⟩ := v
        cases a with
        | true => exact up_bd h2 (by omega)
        | false => exact fdr_bdL hrec n (j + 1) b (by omega) h2
    · rw [if_neg q]
      exact fdr_bdL hrec n (j + 1) t (by omega) h
theorem fdp_bdL {E : Nat → Nat → Bool} {lev : Nat → Option Nat} {dep nr : Nat} : ∀ {f x : Nat} {t : SG}, (∀ r z, t.2.1 r = some z → z < nr) → ∀ r z, (fdp E lev dep nr f x t).2.2.1 r = some z → z < nr
  | 0, x, t, h => h
  | f + 1, x, t, h => fdr_bdL (fun y t ht => fdp_bdL ht) nr 0 t (by omega) h
theorem fps_bdL {E : Nat → Nat → Bool} {lev : Nat → Option Nat} {dep nr : Nat} {t0 : SG} (hb : ∀ r z, t0.2.1 r = some z → z < nr) : ∀ {n : Nat}, ∀ r z, (fps E lev dep nr t0 n).2.2.1 r = some z → z < nr
  | 0 => hb
  | n + 1 => by
    have ih := fps_bdL (E := E) (lev := lev) (dep := dep) hb (n := n)
    by_cases q : lev n = some 0
    · have h2 := fdp_bdL (E := E) (lev := lev) (dep := dep) (nr := nr) (f := dep + 1) (x := n) ih
      cases w : (fdp E lev dep nr (dep + 1) n (fps E lev dep nr t0 n).2).1 with
      | true => rw [fps_win q rfl w]; exact h2
      | false => rw [fps_fail q rfl w]; exact h2
    · rw [fps_no q]; exact ih
abbrev MM : Type := (Nat → Option Nat) × (Nat → Option Nat)
/-- one phase: its depth, its paths, the matching behind it -/
def ph1 (E : Nat → Nat → Bool) (nl nr : Nat) (b : MM) : Option (Nat × Nat × MM) := match ldp (LV E b nl nr) (gfr E nr b.2) nl with
  | none => none
  | some d => some (d, (fps E (LV E b nl nr) d nr (fun _ => false, b.1, b.2) nl).1, (fps E (LV E b nl nr) d nr (fun _ => false, b.1, b.2) nl).2.2)
def bS (E : Nat → Nat → Bool) (nl nr : Nat) : Nat → MM
  | 0 => (fun _ => none, fun _ => none)
  | n + 1 => match ph1 E nl nr (bS E nl nr n) with
    | none => bS E nl nr n
    | some r => r.2.2
def dpt (E : Nat → Nat → Bool) (nl nr n : Nat) : Nat := match ph1 E nl nr (bS E nl nr n) with
  | none => 0
  | some r => r.1
def pth (E : Nat → Nat → Bool) (nl nr n : Nat) : Nat := match ph1 E nl nr (bS E nl nr n) with
  | none => 0
  | some r => r.2.1
def prs (E : Nat → Nat → Bool) (nl nr : Nat) : Nat → Nat
  | 0 => 0
  | n + 1 => prs E nl nr n + pth E nl nr n
def phc (E : Nat → Nat → Bool) (nl nr : Nat) : Nat → Nat → Nat
  | 0, n => n
  | f + 1, n => match ph1 E nl nr (bS E nl nr n) with
    | none => n
    | some _ => phc E nl nr f (n + 1)
def phC (E : Nat → Nat → Bool) (nl nr : Nat) : Nat := phc E nl nr 12 0
theorem ph1_none {E : Nat → Nat → Bool} {nl nr : Nat} {b : MM} {lev : Nat → Option Nat} (h : ∀ z, z < nl → lev z = lvs E b.1 b.2 nl nr nl z) (k : ldp lev (gfr E nr b.2) nl = none) : ph1 E nl nr b = none := by
  have e : ldp (LV E b nl nr) (gfr E nr b.2) nl = none := by rw [← k]; exact ldp_cg (fun z hz => (h z hz).symm)
  unfold ph1
  rw [e]
theorem ph1_some {E : Nat → Nat → Bool} {nl nr d : Nat} {b : MM} {lev : Nat → Option Nat} (hb : ∀ r z, b.2 r = some z → z < nl) (h : ∀ z, z < nl → lev z = lvs E b.1 b.2 nl nr nl z) (k : ldp lev (gfr E nr b.2) nl = some d) : ph1 E nl nr b = some (d, (fps E lev d nr (fun _ => false, b.1, b.2) nl).1, (fps E lev d nr (fun _ => false, b.1, b.2) nl).2.2) := by
  have e : ldp (LV E b nl nr) (gfr E nr b.2) nl = some d := by rw [← k]; exact ldp_cg (fun z hz => (h z hz).symm)
  have e2 : fps E lev d nr (fun _ => false, b.1, b.2) nl = fps E (LV E b nl nr) d nr (fun _ => false, b.1, b.2) nl := fps_cg h hb (Nat.le_refl _)
  unfold ph1
  rw [e, e2]
theorem bS_bd (E : Nat → Nat → Bool) (nl nr : Nat) : ∀ n, (∀ k v, (bS E nl nr n).1 k = some v → v < nr) ∧ (∀ r z, (bS E nl nr n).2 r = some z → z < nl)
  | 0 => ⟨(fun k v h => by cases h), (fun k v h => by cases h)⟩
  | n + 1 => by
    have ih := bS_bd E nl nr n
    rw [bS]
    cases k : ph1 E nl nr (bS E nl nr n) with
    | none => exact ih
    | some r =>
      unfold ph1 at k
      cases q : ldp (LV E (bS E nl nr n) nl nr) (gfr E nr (bS E nl nr n).2) nl with
      | none => rw [q] at k; cases k
      | some d =>
        rw [q] at k
        cases k
        exact ⟨fps_bdL ih.1, fps_bd ih.2 (Nat.le_refl _)⟩
theorem bS_to {E : Nat → Nat → Bool} {nl nr n : Nat} {r : Nat × Nat × MM} (h : ph1 E nl nr (bS E nl nr n) = some r) : bS E nl nr (n + 1) = r.2.2 := by rw [bS, h]
theorem dpt_to {E : Nat → Nat → Bool} {nl nr n : Nat} {r : Nat × Nat × MM} (h : ph1 E nl nr (bS E nl nr n) = some r) : dpt E nl nr n = r.1 := by rw [dpt, h]
theorem pth_to {E : Nat → Nat → Bool} {nl nr n : Nat} {r : Nat × Nat × MM} (h : ph1 E nl nr (bS E nl nr n) = some r) : pth E nl nr n = r.2.1 := by rw [pth, h]
theorem phc_go {E : Nat → Nat → Bool} {nl nr n : Nat} {r : Nat × Nat × MM} (hn : n < 12) (h : ph1 E nl nr (bS E nl nr n) = some r) : phc E nl nr (12 - n) n = phc E nl nr (12 - (n + 1)) (n + 1) := by
  rw [show 12 - n = (12 - (n + 1)) + 1 by omega, phc, h]
theorem phc_end {E : Nat → Nat → Bool} {nl nr n : Nat} (h : ph1 E nl nr (bS E nl nr n) = none ∨ n = 12) : phc E nl nr (12 - n) n = n := by
  rcases h with h | h
  · cases e : 12 - n with
    | zero => rfl
    | succ k => rw [phc, h]
  · subst h; rfl
theorem phc_le {E : Nat → Nat → Bool} {nl nr : Nat} : ∀ (f n : Nat), phc E nl nr f n ≤ n + f
  | 0, n => Nat.le_refl _
  | f + 1, n => by
    rw [phc]
    cases ph1 E nl nr (bS E nl nr n) with
    | none => simp only; omega
    | some r => have := phc_le (E := E) (nl := nl) (nr := nr) f (n + 1); simp only; omega
theorem ph1_dep {E : Nat → Nat → Bool} {nl nr d : Nat} {b : MM} {lev : Nat → Option Nat} (hb : ∀ r z, b.2 r = some z → z < nl) (h : ∀ z, z < nl → lev z = lvs E b.1 b.2 nl nr nl z) (k : ldp lev (gfr E nr b.2) nl = some d) : d < nl := by
  obtain ⟨i, hi, hl, -⟩ := ldp_in k
  rw [h i hi] at hl
  exact lvs_lt hb hl
theorem lev13 {E : Nat → Nat → Bool} {nl nr : Nat} {b : MM} {lev : Nat → Option Nat} (hnl : nl ≤ 12) (hb : ∀ r z, b.2 r = some z → z < nl) (h : ∀ z, z < nl → lev z = lvs E b.1 b.2 nl nr nl z) : ∀ z v, z < nl → lev z = some v → v ≤ 13 := fun z v hz hv => by
  rw [h z hz] at hv
  have := lvs_lt hb hv
  omega
