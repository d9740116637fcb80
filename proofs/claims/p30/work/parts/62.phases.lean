/-! the phases build a largest matching -/
def ovr (w f : Nat → Option Nat) : Nat → Option Nat := fun k => match w k with
  | some v => some v
  | none => f k
theorem ovr_if {w f : Nat → Option Nat} {x j l : Nat} : ovr (fun l => if l = x then some j else w l) f l = if l = x then some j else ovr w f l := by
  unfold ovr
  by_cases e : l = x <;> simp [e]
theorem ovr_no {w f : Nat → Option Nat} {k : Nat} (h : w k = none) : ovr w f k = f k := by unfold ovr; rw [h]
theorem ovr_cg {w f g : Nat → Option Nat} {k : Nat} (h : w k = none → f k = g k) : ovr w f k = ovr w g k := by
  unfold ovr
  cases e : w k with
  | some v => rfl
  | none => exact h e
theorem MT.ins {nl nr x r : Nat} {E : Nat → Nat → Bool} {mL mR : Nat → Option Nat} (h : MT nl nr E mL mR) (hx : x < nl) (hr : r < nr) (hE : E x r = true) (h1 : mL x = none) (h2 : mR r = none) : MT nl nr E (va_up mL x (some r)) (va_up mR r (some x)) := by
  refine ⟨fun l r0 q => ?_, fun r0 l q => ?_⟩
  · by_cases e : l = x
    · subst e
      rw [up_at] at q
      cases q
      exact ⟨hx, hr, hE, up_at _ _ _⟩
    · rw [up_ne _ _ e] at q
      obtain ⟨a, b, c, d⟩ := h.1 l r0 q
      exact ⟨a, b, c, by rw [up_ne]; exact d; intro z; rw [z, h2] at d; cases d⟩
  · by_cases e : r0 = r
    · subst e
      rw [up_at] at q
      cases q
      exact up_at _ _ _
    · rw [up_ne _ _ e] at q
      have a := h.2 r0 l q
      rw [up_ne]
      · exact a
      · intro z; rw [z, h1] at a; cases a
/-- a matching in which x takes the place of y at r -/
theorem MT.swap {nl nr x y r : Nat} {E : Nat → Nat → Bool} {mL mR : Nat → Option Nat} (h : MT nl nr E mL mR) (hx : x < nl) (hE : E x r = true) (h1 : mL x = none) (h2 : mR r = some y) (hxy : ¬ x = y) : MT nl nr E (va_up (va_up mL x (some r)) y none) (va_up mR r (some x)) ∧ sz nl (va_up (va_up mL x (some r)) y none) = sz nl mL := by
  have hy := h.r h2
  refine ⟨⟨fun l r0 q => ?_, fun r0 l q => ?_⟩, ?_⟩
  · by_cases ey : l = y
    · rw [ey, up_at] at q; cases q
    · rw [up_ne _ _ ey] at q
      by_cases e : l = x
      · subst e
        rw [up_at] at q
        cases q
        exact ⟨hx, hy.2.1, hE, up_at _ _ _⟩
      · rw [up_ne _ _ e] at q
        obtain ⟨a, b, c, d⟩ := h.1 l r0 q
        refine ⟨a, b, c, ?_⟩
        rw [up_ne]
        · exact d
        · intro z
          rw [z, h2] at d
          exact ey (Option.some.inj d).symm
  · by_cases e : r0 = r
    · subst e
      rw [up_at] at q
      cases q
      rw [up_ne _ _ hxy]
      exact up_at _ _ _
    · rw [up_ne _ _ e] at q
      have a := h.2 r0 l q
      have ey : ¬ l = y := fun z => by rw [z, hy.2.2.2] at a; exact e (Option.some.inj a).symm
      have ex : ¬ l = x := fun z => by rw [z, h1] at a; cases a
      rw [up_ne _ _ ey, up_ne _ _ ex]
      exact a
  · have a := sz_up (mL := mL) (r := r) hx
    rw [h1] at a
    have b := sz_cut (nl := nl) (x := y) (y := r) (mL := va_up mL x (some r)) hy.1 (by rw [up_ne _ _ (fun z => hxy z.symm)]; exact hy.2.2.2)
    simp at a
    omega
/-- what a successful try has written -/
def WR (nl nr : Nat) (E : Nat → Nat → Bool) (lev : Nat → Option Nat) (x lv : Nat) (t t2 : SG) : Prop := ∃ wL wR : Nat → Option Nat, t2.2.1 = ovr wL t.2.1 ∧ t2.2.2 = ovr wR t.2.2 ∧ (∀ r, wR r ≠ none → t.1 r = false) ∧ (∀ l, wL l ≠ none → l = x ∨ ∃ k, lev l = some k ∧ lv < k) ∧ wL x ≠ none ∧
  ∀ mL mR, MT nl nr E mL mR → mL x = none → (∀ r, t.1 r = false → mR r = t.2.2 r) → MT nl nr E (ovr wL mL) (ovr wR mR) ∧ sz nl (ovr wL mL) = sz nl mL + 1
/-- the right nodes that a left node of level lv may take -/
def adm (lev : Nat → Option Nat) (dep : Nat) (bR : Nat → Option Nat) (lv r : Nat) : Prop := match bR r with
  | none => lv = dep
  | some y => lv < dep ∧ lev y = some (lv + 1)
def EXN (nr : Nat) (E : Nat → Nat → Bool) (lev : Nat → Option Nat) (dep : Nat) (bR : Nat → Option Nat) (x lv : Nat) (tk : Nat → Bool) : Prop := ∀ r, r < nr → E x r = true → adm lev dep bR lv r → tk r = true
def EXR (nr : Nat) (E : Nat → Nat → Bool) (lev : Nat → Option Nat) (dep : Nat) (bR : Nat → Option Nat) (r : Nat) (tk : Nat → Bool) : Prop := ∃ y k, bR r = some y ∧ lev y = some k ∧ EXN nr E lev dep bR y k tk
theorem EXN.mono {nr dep x lv : Nat} {E : Nat → Nat → Bool} {lev bR : Nat → Option Nat} {tk tk2 : Nat → Bool} (h : EXN nr E lev dep bR x lv tk) (k : ∀ r, tk r = true → tk2 r = true) : EXN nr E lev dep bR x lv tk2 := fun r a b c => k r (h r a b c)
theorem EXR.mono {nr dep r : Nat} {E : Nat → Nat → Bool} {lev bR : Nat → Option Nat} {tk tk2 : Nat → Bool} (h : EXR nr E lev dep bR r tk) (k : ∀ r, tk r = true → tk2 r = true) : EXR nr E lev dep bR r tk2 := by
  obtain ⟨y, j, a, b, c⟩ := h
  exact ⟨y, j, a, b, c.mono k⟩
/-- what a failed try leaves -/
def FL (nr : Nat) (E : Nat → Nat → Bool) (lev : Nat → Option Nat) (dep x lv : Nat) (t t2 : SG) : Prop := t2.2 = t.2 ∧ (∀ r, t.1 r = true → t2.1 r = true) ∧ (∀ r, t2.1 r = true → t.1 r = true ∨ EXR nr E lev dep t.2.2 r t2.1) ∧ EXN nr E lev dep t.2.2 x lv t2.1
theorem tak_adm {lev : Nat → Option Nat} {dep lv r : Nat} {t : SG} : tak lev dep lv t r = true ↔ t.1 r = false ∧ adm lev dep t.2.2 lv r := by
  unfold tak tkb adm
  cases t.2.2 r with
  | none => simp
  | some y => simp
theorem fdr_res {nl nr dep x lv : Nat} {E : Nat → Nat → Bool} {lev : Nat → Option Nat} {rec : Nat → SG → Bool × SG} (hx : x < nl) (hlx : lev x = some lv)
    (hT : ∀ y t, y < nl → lev y = some (lv + 1) → (∀ r z, t.2.2 r = some z → z < nl) → (rec y t).1 = true → WR nl nr E lev y (lv + 1) t (rec y t).2) (hF : ∀ y t, y < nl → lev y = some (lv + 1) → (∀ r z, t.2.2 r = some z → z < nl) → (rec y t).1 = false → FL nr E lev dep y (lv + 1) t (rec y t).2) :
    ∀ (n j : Nat) (t : SG), n + j = nr → (∀ r z, t.2.2 r = some z → z < nl) → ((fdr E lev dep rec x lv n j t).1 = true → WR nl nr E lev x lv t (fdr E lev dep rec x lv n j t).2) ∧
      ((fdr E lev dep rec x lv n j t).1 = false → (∀ r, r < j → E x r = true → adm lev dep t.2.2 lv r → t.1 r = true) → FL nr E lev dep x lv t (fdr E lev dep rec x lv n j t).2)
  | 0, j, t, hn, hb => ⟨(fun h => by cases h), fun _ h => ⟨rfl, fun r h => h, fun r h => Or.inl h, fun r hr he ha => h r (by omega) he ha⟩⟩
  | n + 1, j, t, hn, hb => by
    rw [fdr]
    by_cases q : (E x j && tak lev dep lv t j) = true
    · rw [if_pos q]
      rw [Bool.and_eq_true, tak_adm] at q
      obtain ⟨qE, qt, qa⟩ := q
      cases k : t.2.2 j with
      | none =>
        refine ⟨fun _ => ⟨fun l => if l = x then some j else none, fun r => if r = j then some x else none, ?_, ?_, fun r hr => ?_, fun l hl => ?_, ?_, fun mL mR hm h1 h2 => ?_⟩, (fun h => by cases h)⟩
        · funext l; unfold va_up ovr; by_cases e : l = x <;> simp [e]
        · funext r; unfold va_up ovr; by_cases e : r = j <;> simp [e]
        · by_cases e : r = j
          · rw [e]; exact qt
          · simp [e] at hr
        · by_cases e : l = x
          · exact Or.inl e
          · simp [e] at hl
        · simp
        · have e1 : ovr (fun l => if l = x then some j else none) mL = va_up mL x (some j) := by funext l; unfold va_up ovr; by_cases e : l = x <;> simp [e]
          have e2 : ovr (fun r => if r = j then some x else none) mR = va_up mR j (some x) := by funext r; unfold va_up ovr; by_cases e : r = j <;> simp [e]
          rw [e1, e2]
          refine ⟨hm.ins hx (by omega) qE h1 (by rw [h2 j qt]; exact k), ?_⟩
          rw [sz_up hx, h1]
          rfl
      | some y =>
        have hy : y < nl := hb j y k
        unfold adm at qa
        rw [k] at qa
        have a1 := hT y (va_up t.1 j true, t.2.1, t.2.2) hy qa.2 hb
        have a2 := hF y (va_up t.1 j true, t.2.1, t.2.2) hy qa.2 hb
        simp only
        generalize rec y (va_up t.1 j true, t.2.1, t.2.2) = v at a1 a2 ⊢
        obtain ⟨a, b⟩ := v
        cases a with
        | true =>
          refine ⟨fun _ => ?_, (fun h => by cases h)⟩
          obtain ⟨wL, wR, c1, c2, c3, c4, c5, c6⟩ := a1 rfl
          have hxy : ¬ x = y := fun e => by
            rw [e, qa.2] at hlx
            have := Option.some.inj hlx
            omega
          have hwj : wR j = none := by
            cases z : wR j with
            | none => rfl
            | some v =>
              have := c3 j (by rw [z]; intro h; cases h)
              have : va_up t.1 j true j = false := this
              rw [up_at] at this
              cases this
          have hwx : wL x = none := by
            cases z : wL x with
            | none => rfl
            | some v =>
              rcases c4 x (by rw [z]; intro h; cases h) with e9 | ⟨k9, k1, k2⟩
              · exact absurd e9 hxy
              · rw [hlx] at k1
                have := Option.some.inj k1
                omega
          refine ⟨fun l => if l = x then some j else wL l, fun r => if r = j then some x else wR r, ?_, ?_, fun r hr => ?_, fun l hl => ?_, by simp, fun mL mR hm h1 h2 => ?_⟩
          · funext l
            show va_up b.2.1 x (some j) l = _
            have c1 : b.2.1 = ovr wL t.2.1 := c1
            rw [c1]
            unfold va_up ovr
            by_cases e : l = x <;> simp [e]
          · funext r
            show va_up b.2.2 j (some x) r = _
            have c2 : b.2.2 = ovr wR t.2.2 := c2
            rw [c2]
            unfold va_up ovr
            by_cases e : r = j <;> simp [e]
          · by_cases e : r = j
            · rw [e]; exact qt
            · simp only [e, if_false] at hr
              have := c3 r hr
              have : va_up t.1 j true r = false := this
              rw [up_ne _ _ e] at this
              exact this
          · by_cases e : l = x
            · exact Or.inl e
            · simp only [e, if_false] at hl
              rcases c4 l hl with e9 | ⟨k9, k1, k2⟩
              · exact Or.inr ⟨lv + 1, by rw [e9]; exact qa.2, by omega⟩
              · exact Or.inr ⟨k9, k1, by omega⟩
          · have s := hm.swap hx qE h1 (by rw [h2 j qt]; exact k) hxy
            have z := c6 _ _ s.1 (up_at _ _ _) (fun r hr => by
              have hr : va_up t.1 j true r = false := hr
              by_cases e : r = j
              · rw [e, up_at] at hr; cases hr
              · rw [up_ne _ _ e] at hr
                rw [up_ne _ _ e]
                exact h2 r hr)
            have e1 : ovr (fun l => if l = x then some j else wL l) mL = ovr wL (va_up (va_up mL x (some j)) y none) := by
              funext l
              rw [ovr_if]
              by_cases e : l = x
              · subst e
                rw [if_pos rfl, ovr_no hwx, up_ne _ _ hxy, up_at]
              · rw [if_neg e]
                exact ovr_cg (fun w => by
                  have : ¬ l = y := fun e2 => c5 (by rw [← e2]; exact w)
                  rw [up_ne _ _ this, up_ne _ _ e])
            have e2 : ovr (fun r => if r = j then some x else wR r) mR = ovr wR (va_up mR j (some x)) := by
              funext r
              rw [ovr_if]
              by_cases e : r = j
              · subst e
                rw [if_pos rfl, ovr_no hwj, up_at]
              · rw [if_neg e]
                exact ovr_cg (fun _ => by rw [up_ne _ _ e])
            rw [e1, e2]
            exact ⟨z.1, by rw [z.2, s.2]⟩
        | false =>
          obtain ⟨f1, f2, f3, f4⟩ := a2 rfl
          have f1 : b.2 = t.2 := f1
          have hmono : ∀ r, t.1 r = true → b.1 r = true := fun r hr => f2 r (by
            show va_up t.1 j true r = true
            by_cases e : r = j
            · rw [e, up_at]
            · rw [up_ne _ _ e]; exact hr)
          have hj : b.1 j = true := f2 j (up_at _ _ _)
          have ih := fdr_res hx hlx hT hF n (j + 1) b (by omega) (by rw [f1]; exact hb)
          refine ⟨fun h => ?_, fun h h0 => ?_⟩
          · obtain ⟨wL, wR, c1, c2, c3, c4, c5, c6⟩ := ih.1 h
            rw [f1] at c1 c2 c6
            refine ⟨wL, wR, c1, c2, fun r hr => ?_, c4, c5, fun mL mR hm h1 h2 => c6 mL mR hm h1 (fun r hr => h2 r ?_)⟩
            · have := c3 r hr
              cases z : t.1 r with
              | false => rfl
              | true => rw [hmono r z] at this; cases this
            · cases z : t.1 r with
              | false => rfl
              | true => rw [hmono r z] at hr; cases hr
          · obtain ⟨g1, g2, g3, g4⟩ := ih.2 h (fun r hr he ha => by
              by_cases e : r = j
              · rw [e]; exact hj
              · rw [f1] at ha; exact hmono r (h0 r (by omega) he ha))
            rw [f1] at g1 g3 g4
            refine ⟨g1, fun r hr => g2 r (hmono r hr), fun r hr => ?_, g4⟩
            rcases g3 r hr with z | z
            · rcases f3 r z with w | w
              · have w : va_up t.1 j true r = true := w
                by_cases e : r = j
                · subst e
                  exact Or.inr ⟨y, lv + 1, k, qa.2, EXN.mono f4 g2⟩
                · rw [up_ne _ _ e] at w; exact Or.inl w
              · exact Or.inr (EXR.mono w g2)
            · exact Or.inr z
    · rw [if_neg q]
      have ih := fdr_res hx hlx hT hF n (j + 1) t (by omega) hb
      refine ⟨ih.1, fun h h0 => ih.2 h (fun r hr he ha => ?_)⟩
      by_cases e : r = j
      · subst e
        cases z : t.1 r with
        | true => rfl
        | false => exact absurd (by rw [Bool.and_eq_true, tak_adm]; exact ⟨he, z, ha⟩) q
      · exact h0 r (by omega) he ha
theorem fdp_res {nl nr dep : Nat} {E : Nat → Nat → Bool} {lev : Nat → Option Nat} : ∀ (f x lv : Nat) (t : SG), lv + f = dep + 1 → x < nl → lev x = some lv → (∀ r z, t.2.2 r = some z → z < nl) →
    ((fdp E lev dep nr f x t).1 = true → WR nl nr E lev x lv t (fdp E lev dep nr f x t).2) ∧ ((fdp E lev dep nr f x t).1 = false → FL nr E lev dep x lv t (fdp E lev dep nr f x t).2)
  | 0, x, lv, t, hf, hx, hl, hb => ⟨(fun h => by cases h), fun _ => ⟨rfl, fun r h => h, fun r h => Or.inl h, fun r hr he ha => by
      exfalso
      unfold adm at ha
      cases k : t.2.2 r with
      | none => rw [k] at ha; simp only at ha; omega
      | some y => rw [k] at ha; simp only at ha; omega⟩⟩
  | f + 1, x, lv, t, hf, hx, hl, hb => by
    rw [fdp, show dep - f = lv by omega]
    have k := fdr_res (nl := nl) (nr := nr) (dep := dep) (E := E) (rec := fdp E lev dep nr f) hx hl (fun y t hy hly hb => (fdp_res f y (lv + 1) t (by omega) hy hly hb).1) (fun y t hy hly hb => (fdp_res f y (lv + 1) t (by omega) hy hly hb).2) nr 0 t (by omega) hb
    exact ⟨k.1, fun h => k.2 h (fun r hr => by omega)⟩
theorem ovr_eq {w f : Nat → Option Nat} {k : Nat} (h : w k = none) : ovr w f k = f k := by unfold ovr; rw [h]
/-- the tries of a phase, one after another -/
theorem fps_res {nl nr dep : Nat} {E : Nat → Nat → Bool} {lev bL bR : Nat → Option Nat} (hm : MT nl nr E bL bR) (hfree : ∀ l, l < nl → lev l = some 0 → bL l = none) : ∀ n, n ≤ nl →
    MT nl nr E (fps E lev dep nr (fun _ => false, bL, bR) n).2.2.1 (fps E lev dep nr (fun _ => false, bL, bR) n).2.2.2 ∧ sz nl (fps E lev dep nr (fun _ => false, bL, bR) n).2.2.1 = sz nl bL + (fps E lev dep nr (fun _ => false, bL, bR) n).1 ∧
    (∀ l, n ≤ l → l < nl → lev l = some 0 → (fps E lev dep nr (fun _ => false, bL, bR) n).2.2.1 l = none) ∧
    ((fps E lev dep nr (fun _ => false, bL, bR) n).1 = 0 → (fps E lev dep nr (fun _ => false, bL, bR) n).2.2 = (bL, bR) ∧ (∀ r, (fps E lev dep nr (fun _ => false, bL, bR) n).2.1 r = true → EXR nr E lev dep bR r (fps E lev dep nr (fun _ => false, bL, bR) n).2.1) ∧ ∀ l, l < n → lev l = some 0 → EXN nr E lev dep bR l 0 (fps E lev dep nr (fun _ => false, bL, bR) n).2.1)
  | 0, _ => ⟨hm, rfl, fun l _ hl h => hfree l hl h, fun _ => ⟨rfl, (fun r h => by cases h), fun l h => absurd h (Nat.not_lt_zero _)⟩⟩
  | n + 1, hn => by
    obtain ⟨i1, i2, i3, i4⟩ := fps_res hm hfree n (by omega)
    by_cases q : lev n = some 0
    · have hb : ∀ r z, (fps E lev dep nr (fun _ => false, bL, bR) n).2.2.2 r = some z → z < nl := fun r z h => (i1.r h).1
      have z := fdp_res (nl := nl) (nr := nr) (dep := dep) (E := E) (dep + 1) n 0 (fps E lev dep nr (fun _ => false, bL, bR) n).2 (by omega) (by omega) q hb
      generalize hS : fps E lev dep nr (fun _ => false, bL, bR) n = S at i1 i2 i3 i4 z
      cases w : (fdp E lev dep nr (dep + 1) n S.2).1 with
      | true =>
        rw [fps_win q (fo := S.1) (t := S.2) hS w]
        obtain ⟨wL, wR, c1, c2, c3, c4, c5, c6⟩ := z.1 w
        have k := c6 _ _ i1 (i3 n (Nat.le_refl _) (by omega) q) (fun r _ => rfl)
        generalize (fdp E lev dep nr (dep + 1) n S.2).2 = v at c1 c2 ⊢
        refine ⟨by rw [c1, c2]; exact k.1, by rw [c1, k.2, i2, Nat.add_assoc], fun l hl hln h0 => ?_, fun h => by cases h⟩
        rw [c1]
        have hw : wL l = none := by
          cases z9 : wL l with
          | none => rfl
          | some v =>
            rcases c4 l (by rw [z9]; intro h; cases h) with e9 | ⟨k9, k1, k2⟩
            · omega
            · rw [h0] at k1
              have := Option.some.inj k1
              omega
        rw [ovr_no hw]
        exact i3 l (by omega) hln h0
      | false =>
        rw [fps_fail q (fo := S.1) (t := S.2) hS w]
        obtain ⟨f1, f2, f3, f4⟩ := z.2 w
        generalize (fdp E lev dep nr (dep + 1) n S.2).2 = v at f1 f2 f3 f4 ⊢
        refine ⟨by rw [f1]; exact i1, by rw [f1]; exact i2, fun l hl hln h0 => by rw [f1]; exact i3 l (by omega) hln h0, fun h => ?_⟩
        obtain ⟨j1, j2, j3⟩ := i4 h
        have e1 : S.2.2.2 = bR := by rw [j1]
        rw [e1] at f3 f4
        refine ⟨by rw [f1]; exact j1, fun r hr => ?_, fun l hl h0 => ?_⟩
        · rcases f3 r hr with y | y
          · exact (j2 r y).mono f2
          · exact y
        · by_cases e : l = n
          · subst e; exact f4
          · exact (j3 l (by omega) h0).mono f2
    · rw [fps_no q]
      refine ⟨i1, i2, fun l hl => i3 l (by omega), fun h => ?_⟩
      obtain ⟨j1, j2, j3⟩ := i4 h
      refine ⟨j1, j2, fun l hl h0 => ?_⟩
      by_cases e : l = n
      · rw [e] at h0; exact absurd h0 q
      · exact j3 l (by omega) h0
theorem lvs_back {E : Nat → Nat → Bool} {bL bR : Nat → Option Nat} {nl nr : Nat} : ∀ (n z v : Nat), lvs E bL bR nl nr n z = some (v + 1) → ∃ x r, x < nl ∧ lvs E bL bR nl nr n x = some v ∧ r < nr ∧ E x r = true ∧ bR r = some z
  | 0, z, v, h => by
    unfold lvs lv0 at h
    by_cases a : z < nl
    · rw [if_pos a] at h
      by_cases b : (bL z).isNone = true
      · rw [if_pos b] at h; cases h
      · rw [if_neg b] at h; cases h
    · rw [if_neg a] at h; cases h
  | n + 1, z, v, h => by
    have ih := lvs_back (E := E) (bL := bL) (bR := bR) (nl := nl) (nr := nr) n z v
    unfold lvs at h
    cases k : lvs E bL bR nl nr n z with
    | some y =>
      rw [lvp_keep k] at h
      rw [h] at k
      obtain ⟨x, r, hx, hl, hr⟩ := ih k
      exact ⟨x, r, hx, lvp_keep hl, hr⟩
    | none =>
      unfold lvp at h
      rw [k] at h
      simp only at h
      split at h
      · rename_i q
        have e : n + 1 = v + 1 := Option.some.inj h
        obtain ⟨x, hx, hq⟩ := ex_iff.mp q
        rw [Bool.and_eq_true, beq_iff_eq] at hq
        obtain ⟨r, hr, hq2⟩ := ex_iff.mp hq.2
        rw [Bool.and_eq_true, beq_iff_eq] at hq2
        refine ⟨x, r, hx, ?_, hr, hq2.1, hq2.2⟩
        show lvp E bR nr n (lvs E bL bR nl nr n) nl x = some v
        rw [lvp_keep hq.1]
        congr 1
        omega
      · cases h
/-- a phase finds a path -/
theorem ph1_res {nl nr d fo : Nat} {E : Nat → Nat → Bool} {b b2 : MM} (hnr : nr ≤ 12) (hm : MT nl nr E b.1 b.2) (h : ph1 E nl nr b = some (d, fo, b2)) : MT nl nr E b2.1 b2.2 ∧ sz nl b2.1 = sz nl b.1 + fo ∧ 0 < fo := by
  unfold ph1 at h
  cases q : ldp (LV E b nl nr) (gfr E nr b.2) nl with
  | none => rw [q] at h; cases h
  | some d2 =>
    rw [q] at h
    have h := Option.some.inj h
    simp only [Prod.mk.injEq] at h
    obtain ⟨rfl, h2, h3⟩ := h
    have hfr : ∀ l, l < nl → LV E b nl nr l = some 0 → b.1 l = none := fun l hl h0 => by
      have := (lvs_free0 nl).mp h0
      cases k : b.1 l with
      | none => rfl
      | some v => rw [← lv0_b hl k] at this; cases this
    obtain ⟨r1, r2, -, r4⟩ := fps_res (dep := d2) (lev := LV E b nl nr) hm hfr nl (Nat.le_refl _)
    rw [← h3, ← h2]
    refine ⟨r1, r2, ?_⟩
    rcases Nat.eq_zero_or_pos (fps E (LV E b nl nr) d2 nr (fun _ => false, b.1, b.2) nl).1 with z | z
    · exfalso
      obtain ⟨-, j2, j3⟩ := r4 z
      generalize (fps E (LV E b nl nr) d2 nr (fun _ => false, b.1, b.2) nl).2.1 = tk at j2 j3
      have key : ∀ k, k ≤ d2 → ∀ x, LV E b nl nr x = some k → EXN nr E (LV E b nl nr) d2 b.2 x k tk := by
        intro k
        induction k with
        | zero => exact fun _ x hx => j3 x (lvs_in (fun r z hz => (hm.r hz).1) nl x 0 hx) hx
        | succ k ih =>
          intro hk x hx
          obtain ⟨x2, r, a1, a2, a3, a4, a5⟩ := lvs_back nl x k hx
          have t := ih (by omega) x2 a2 r a3 a4 (by unfold adm; rw [a5]; exact ⟨by omega, hx⟩)
          obtain ⟨y, k2, c1, c2, c3⟩ := j2 r t
          rw [a5] at c1
          cases c1
          rw [hx] at c2
          cases c2
          exact c3
      obtain ⟨i, hi, hl, hg⟩ := ldp_in q
      unfold gfr at hg
      obtain ⟨r, hr, hq⟩ := ex_iff.mp hg
      unfold fre at hq
      simp only [Bool.and_eq_true, decide_eq_true_eq, Option.isNone_iff_eq_none] at hq
      have t := key d2 (Nat.le_refl _) i hl r hq.2.1 hq.1 (by unfold adm; rw [hq.2.2])
      obtain ⟨y, k2, c1, -⟩ := j2 r t
      rw [hq.2.2] at c1
      cases c1
    · exact z
theorem bS_MT {nl nr : Nat} {E : Nat → Nat → Bool} (hnr : nr ≤ 12) : ∀ n, MT nl nr E (bS E nl nr n).1 (bS E nl nr n).2 ∧ sz nl (bS E nl nr n).1 = prs E nl nr n ∧ ((∀ k, k < n → ph1 E nl nr (bS E nl nr k) ≠ none) → n ≤ prs E nl nr n)
  | 0 => ⟨⟨(fun l r h => by cases h), (fun r l h => by cases h)⟩, cnt_zero nl, fun _ => Nat.le_refl _⟩
  | n + 1 => by
    obtain ⟨i1, i2, i3⟩ := bS_MT (E := E) (nl := nl) hnr n
    cases k : ph1 E nl nr (bS E nl nr n) with
    | none =>
      have e1 : bS E nl nr (n + 1) = bS E nl nr n := by rw [bS, k]
      have e2 : prs E nl nr (n + 1) = prs E nl nr n := by rw [prs, pth, k]; rfl
      rw [e1, e2]
      exact ⟨i1, i2, fun h => absurd k (h n (Nat.lt_succ_self _))⟩
    | some r =>
      obtain ⟨d, fo, b2⟩ := r
      have z := ph1_res hnr i1 k
      rw [bS_to k, prs, pth_to k]
      refine ⟨z.1, by rw [z.2.1, i2], fun h => ?_⟩
      have := i3 (fun k hk => h k (by omega))
      show n + 1 ≤ prs E nl nr n + fo
      omega
theorem sz_le (nl : Nat) (mL : Nat → Option Nat) : sz nl mL ≤ nl := cnt_le _ _
theorem ph_stop {nl nr : Nat} {E : Nat → Nat → Bool} (hnl : nl ≤ 12) (hnr : nr ≤ 12) : ∀ n, (∀ k, k < n → ph1 E nl nr (bS E nl nr k) ≠ none) → n ≤ 12 := by
  intro n h
  obtain ⟨-, i2, i3⟩ := bS_MT (E := E) (nl := nl) hnr n
  have := i3 h
  have := sz_le nl (bS E nl nr n).1
  omega
theorem phc_none {nl nr : Nat} {E : Nat → Nat → Bool} (hnl : nl ≤ 12) (hnr : nr ≤ 12) : ∀ f n, f + n = 12 → (∀ k, k < n → ph1 E nl nr (bS E nl nr k) ≠ none) → ph1 E nl nr (bS E nl nr (phc E nl nr f n)) = none
  | 0, n, hn, h => by
    cases k : ph1 E nl nr (bS E nl nr n) with
    | none => exact k
    | some r =>
      have := ph_stop (E := E) hnl hnr (n + 1) (fun k2 hk => by
        by_cases e : k2 = n
        · rw [e, k]; intro z; cases z
        · exact h k2 (by omega))
      omega
  | f + 1, n, hn, h => by
    rw [phc]
    cases k : ph1 E nl nr (bS E nl nr n) with
    | none => exact k
    | some r => exact phc_none hnl hnr f (n + 1) (by omega) (fun k2 hk => by
        by_cases e : k2 = n
        · rw [e, k]; intro z; cases z
        · exact h k2 (by omega))
theorem lvs_step {E : Nat → Nat → Bool} {bL bR : Nat → Option Nat} {nl nr x y r k : Nat} : ∀ n, k < n → lvs E bL bR nl nr n x = some k → x < nl → r < nr → E x r = true → bR r = some y → ∃ v, lvs E bL bR nl nr n y = some v
  | 0, hk, _, _, _, _, _ => absurd hk (Nat.not_lt_zero _)
  | n + 1, hk, h, hx, hr, hE, hb => by
    have ih := lvs_step (E := E) (bL := bL) (bR := bR) (nl := nl) (nr := nr) (x := x) (y := y) (r := r) (k := k) n
    show ∃ v, lvp E bR nr n (lvs E bL bR nl nr n) nl y = some v
    cases q : lvs E bL bR nl nr n y with
    | some v => exact ⟨v, lvp_keep q⟩
    | none =>
      cases q2 : lvs E bL bR nl nr n x with
      | some k2 =>
        have e : k2 = k := by
          have h : lvp E bR nr n (lvs E bL bR nl nr n) nl x = some k := h
          rw [lvp_keep q2] at h
          exact Option.some.inj h
        subst e
        by_cases c : k2 < n
        · obtain ⟨v, hv⟩ := ih c q2 hx hr hE hb
          rw [q] at hv; cases hv
        · have e : k2 = n := by omega
          subst e
          refine ⟨k2 + 1, ?_⟩
          unfold lvp
          rw [q]
          simp only
          rw [if_pos]
          exact ex_iff.mpr ⟨x, hx, by rw [q2, Bool.and_eq_true]; exact ⟨by simp, ex_iff.mpr ⟨r, hr, by rw [hE, hb]; simp⟩⟩⟩
      | none =>
        exfalso
        have h : lvp E bR nr n (lvs E bL bR nl nr n) nl x = some k := h
        unfold lvp at h
        rw [q2] at h
        simp only at h
        split at h
        · have := Option.some.inj h; omega
        · cases h
theorem ldp_of {lev : Nat → Option Nat} {g : Nat → Bool} {i v : Nat} : ∀ n, i < n → lev i = some v → g i = true → ldp lev g n ≠ none
  | 0, h, _, _ => absurd h (Nat.not_lt_zero _)
  | n + 1, h, hl, hg => by
    rw [ldp_ldi]
    by_cases e : i = n
    · subst e
      rw [hl, hg]
      unfold ldi lst
      simp only [if_true]
      cases ldp lev g i with
      | none => intro z; cases z
      | some w =>
        simp only
        split <;> (intro z; cases z)
    · have ih := ldp_of n (by omega) hl hg
      unfold ldi lst
      cases lev n with
      | none => exact ih
      | some y =>
        simp only
        cases g n with
        | false => exact ih
        | true =>
          simp only [if_true]
          cases k : ldp lev g n with
          | none => exact absurd k ih
          | some w =>
            simp only
            split <;> (intro z; cases z)
theorem phC_max {nl nr : Nat} {E : Nat → Nat → Bool} (hnl : nl ≤ 12) (hnr : nr ≤ 12) (hE : EB nl nr E) : LMx nl nr E (prs E nl nr (phC E nl nr)) := by
  obtain ⟨hm, hs, -⟩ := bS_MT (E := E) (nl := nl) hnr (phC E nl nr)
  have hn : ph1 E nl nr (bS E nl nr (phC E nl nr)) = none := phc_none hnl hnr 12 0 rfl (fun k hk => absurd hk (Nat.not_lt_zero _))
  rw [← hs]
  generalize bS E nl nr (phC E nl nr) = b at hm hn
  have hld : ldp (LV E b nl nr) (gfr E nr b.2) nl = none := by
    unfold ph1 at hn
    cases q : ldp (LV E b nl nr) (gfr E nr b.2) nl with
    | none => rfl
    | some d => rw [q] at hn; cases hn
  refine cert hm (fun l => (LV E b nl nr l).isSome) (fun l hl hf => ?_) (fun l r hs he => ?_)
  · show (lvs E b.1 b.2 nl nr nl l).isSome = true
    rw [lvs_free hl hf]; rfl
  · obtain ⟨k, hk⟩ := Option.isSome_iff_exists.mp hs
    have hln := hE l r he
    have hkl : k < nl := lvs_lt (fun r z hz => (hm.r hz).1) hk
    cases q : b.2 r with
    | none =>
      exfalso
      refine ldp_of nl hln.1 hk ?_ hld
      exact ex_iff.mpr ⟨r, by omega, by rw [he, fre_none hln.2 q |>.symm]; rfl⟩
    | some l' =>
      obtain ⟨v, hv⟩ := lvs_step nl hkl hk hln.1 hln.2 he q
      exact ⟨l', rfl, by show (lvs E b.1 b.2 nl nr nl l').isSome = true; rw [hv]; rfl⟩
theorem INV.rebuild {nl nr ne n : Nat} {E : Nat → Nat → Bool} {mL mR : Nat → Option Nat} (h : INV nl nr ne n E mL mR) : INV nl nr ne (prs E nl nr (phC E nl nr)) E (bS E nl nr (phC E nl nr)).1 (bS E nl nr (phC E nl nr)).2 := by
  obtain ⟨hnl, hnr, hb, hm, hn, hl, he⟩ := h
  obtain ⟨hm2, hs, -⟩ := bS_MT (E := E) (nl := nl) hnr (phC E nl nr)
  exact ⟨hnl, hnr, hb, hm2, hs.symm, phC_max hnl hnr hb, he⟩
theorem dif12 {nl nr : Nat} {E : Nat → Nat → Bool} {aL aR bL bR : Nat → Option Nat} (hnl : nl ≤ 12) (ha : MT nl nr E aL aR) (hb : MT nl nr E bL bR) : dif nl aL bL = dif 12 aL bL := by
  have hz : ∀ k, dif (nl + k) aL bL = dif nl aL bL := by
    intro k
    induction k with
    | zero => rfl
    | succ k ih =>
      rw [← ih]
      refine (dif_no ?_).symm
      have e1 : aL (nl + k) = none := by
        cases q : aL (nl + k) with
        | none => rfl
        | some v => have := (ha.1 _ _ q).1; omega
      have e2 : bL (nl + k) = none := by
        cases q : bL (nl + k) with
        | none => rfl
        | some v => have := (hb.1 _ _ q).1; omega
      show aL (nl + k) = bL (nl + k)
      rw [e1, e2]
  rw [← hz (12 - nl), show nl + (12 - nl) = 12 by omega]
