/-! an edge lies in some largest matching -/
section EDGE2
variable {nl nr : Nat} {E : Nat → Nat → Bool} {mL mR : Nat → Option Nat}
theorem cw2 {i j l r : Nat} : cwE E (some i) (some j) none l r = true ↔ E l r = true ∧ ¬ l = i ∧ ¬ r = j := by
  unfold cwE
  rw [Bool.and_eq_true]
  refine and_congr Iff.rfl ?_
  simp only [Bool.and_eq_true, Bool.not_eq_true', beq_eq_false_iff_ne, ne_eq, Option.some.injEq]
  constructor
  · rintro ⟨a, b, -⟩
    exact ⟨fun e => a e.symm, fun e => b e.symm⟩
  · rintro ⟨a, b⟩
    exact ⟨fun e => a e.symm, fun e => b e.symm, by simp⟩
theorem MT.cw {aL aR : Nat → Option Nat} {i j : Nat} (h : MT nl nr E aL aR) (hi : aL i = none) (hj : aR j = none) : MT nl nr (cwE E (some i) (some j) none) aL aR :=
  ⟨fun l r q => by
    obtain ⟨a, b, c, d⟩ := h.1 l r q
    exact ⟨a, b, cw2.mpr ⟨c, (fun e => by rw [e, hi] at q; cases q), (fun e => by rw [e, hj] at d; cases d)⟩, d⟩, h.2⟩
theorem cw_le (hm : MT nl nr E mL mR) (hE : EB nl nr E) (hx : LMx nl nr E (sz nl mL)) {i j : Nat} (hij : E i j = true) : LMx nl nr (cwE E (some i) (some j) none) (sz nl mL - 1) := by
  intro aL aR ha
  have hb := hE i j hij
  have hi : aL i = none := by
    cases q : aL i with
    | none => rfl
    | some v => exact absurd rfl (cw2.mp (ha.1 i v q).2.2.1).2.1
  have hj : aR j = none := by
    cases q : aR j with
    | none => rfl
    | some v => exact absurd rfl (cw2.mp (ha.r q).2.2.1).2.2
  have k := ((ha.mono (E2 := E) (fun a b z => (cw2.mp z).1)).ins hb.1 hb.2 hij hi hj)
  have a := hx _ _ k
  have b := sz_cut (nl := nl) (mL := va_up aL i (some j)) (x := i) hb.1 (up_at _ _ _)
  have c : sz nl (va_up (va_up aL i (some j)) i none) = sz nl aL := cnt_congr (fun z hz => by
    by_cases e : z = i
    · subst e; rw [up_at, hi]
    · rw [up_ne _ _ e, up_ne _ _ e])
  omega
theorem cw_hit (hm : MT nl nr E mL mR) (hnr : nr ≤ 12) (hE : EB nl nr E) (hx : LMx nl nr E (sz nl mL)) {i j : Nat} (hij : E i j = true) {aL aR : Nat → Option Nat} (ha : MT nl nr (cwE E (some i) (some j) none) aL aR) (hs : sz nl mL ≤ sz nl aL + 1) : mst (wyr (cwE E (some i) (some j) none) nr nl) (2 ^ nr) + 1 = sz nl mL := by
  have k := cw_le hm hE hx hij
  have h1 := k aL aR ha
  have h0 : 0 < sz nl mL := by
    refine Classical.byContradiction fun q => ?_
    have z := hE i j hij
    have t := MT.ins (nl := nl) (nr := nr) (E := E) (mL := fun _ => none) (mR := fun _ => none) ⟨(fun l r h => by cases h), (fun r l h => by cases h)⟩ z.1 z.2 hij rfl rfl
    have t2 := hx _ _ t
    have b := sz_cut (nl := nl) (mL := va_up (fun _ => none) i (some j)) (x := i) z.1 (up_at _ _ _)
    omega
  have e : sz nl aL = sz nl mL - 1 := by omega
  rw [mst_eq hnr ha (by rw [e]; exact k), e]
  omega
theorem iSm_yes0 {i j : Nat} (h : pL E mL mR nl nr i = pR E mL mR nl nr j) (h1 : ¬ pL E mL mR nl nr i = 1) : iSm E mL mR nl nr i j = true := by
  unfold iSm
  rw [decide_eq_true h, decide_eq_false h1]
  rfl
theorem iSm_yes1 {i j b : Nat} (h : pL E mL mR nl nr i = pR E mL mR nl nr j) (hb : mR j = some b) (h1 : RC E mL mR nl nr i b = true) (h2 : RC E mL mR nl nr b i = true) : iSm E mL mR nl nr i j = true := by
  unfold iSm
  rw [decide_eq_true h, hb]
  show (true && (_ || (RC E mL mR nl nr i b && RC E mL mR nl nr b i))) = true
  rw [h1, h2]
  simp
theorem iSm_eq (hm : MT nl nr E mL mR) (hnl : nl ≤ 12) (hnr : nr ≤ 12) (hE : EB nl nr E) (hx : LMx nl nr E (sz nl mL)) {i j : Nat} (hij : E i j = true) : iSm E mL mR nl nr i j = decide (mst (wyr (cwE E (some i) (some j) none) nr nl) (2 ^ nr) + 1 = sz nl mL) := by
  have hb := hE i j hij
  have hcl := LHl_CL hm hnl hnr hE hx
  cases qj : mR j with
  | none =>
    have nL : ∀ l, E l j = true → ¬ LHl E mL mR nl l = true := fun l h k => by
      obtain ⟨l', a, -⟩ := hcl l j k h
      rw [qj] at a; cases a
    cases qi : mL i with
    | none => exact absurd (LHl_free hnl hb.1 qi) (nL i hij)
    | some a =>
      have hs := sz_cut hb.1 qi
      have hr := RHl_free hm hnr hb.2 hij qj
      have e1 : pR E mL mR nl nr j = 2 := by
        have a1 : LHr E mL mR nl j = false := by
          rw [← Bool.not_eq_true]
          intro h
          obtain ⟨l, hl, q⟩ := ex_iff.mp h
          rw [Bool.and_eq_true] at q
          exact nL l q.2 (itH_le (by omega) q.1)
        have a2 : RHr E mL mR nr j = true := itH_le (n := 0) (by omega) (fre_none hb.2 qj).symm
        unfold pR prt
        rw [a1, a2]; rfl
      have e2 := pL_2 (nL i hij) hr
      rw [iSm_yes0 (by rw [e1, e2]) (by rw [e2]; decide)]
      refine (decide_eq_true ?_).symm
      have haj : ¬ j = a := fun e => by
        have := (hm.1 i a qi).2.2.2
        rw [← e, qj] at this; cases this
      exact cw_hit hm hnr hE hx hij (((hm.cut qi).mono (fun a b => rm_sub)).cw (up_at _ _ _) (by rw [up_ne _ _ haj]; exact qj)) (by omega)
  | some b =>
    have kb := hm.r qj
    have hst : ST E mR i b := ⟨j, hij, qj⟩
    have hpR := pR_of hm hnl hnr qj
    have hsb := sz_cut kb.1 kb.2.2.2
    have hcb := (hm.cut kb.2.2.2).mono (E2 := E) (fun a b => rm_sub)
    by_cases ebi : b = i
    · subst ebi
      have h1 : iSm E mL mR nl nr b j = true := by
        by_cases p : pL E mL mR nl nr b = 1
        · obtain ⟨p1, p2⟩ := pL_1.mp p
          have sq : ∀ w, RT (ST E mR) b w → RT (ST E mR) w b → SQ nl nr E mL mR w := fun w a c => by
            refine SQ_of ?_ (fun h => p1 (RT_L hm hnl hnr c h)) (fun h => p2 (RT_R hm hnl hnr a h))
            exact RT.ind (P := fun w => w < nl) hb.1 (fun b c _ _ ⟨r, q1, q2⟩ => (hm.r q2).1) a
          have r1 := RC_of hm hnr (RT.refl (a := b)) sq
          exact iSm_yes1 hpR.symm qj r1 r1
        · exact iSm_yes0 hpR.symm p
      rw [h1]
      refine (decide_eq_true ?_).symm
      exact cw_hit hm hnr hE hx hij (hcb.cw (up_at _ _ _) (up_at _ _ _)) (by omega)
    · cases qi : mL i with
      | none =>
        have hl := LHl_free (E := E) (mR := mR) hnl hb.1 qi
        have hl2 := LHl_fwd hm hnl hnr hl hst
        rw [iSm_yes0 (by rw [hpR, pL_0 hl, pL_0 hl2]) (by rw [pL_0 hl]; decide)]
        refine (decide_eq_true ?_).symm
        exact cw_hit hm hnr hE hx hij (hcb.cw (by rw [up_ne _ _ (fun e => ebi e.symm)]; exact qi) (up_at _ _ _)) (by omega)
      | some a =>
        have ka := hm.1 i a qi
        have haj : ¬ a = j := fun e => by
          have := ka.2.2.2
          rw [e, qj] at this
          exact ebi (Option.some.inj this)
        have g1 : va_up mL b none i = some a := by rw [up_ne _ _ (fun e => ebi e.symm)]; exact qi
        have hs2 := sz_cut (nl := nl) hb.1 g1
        have hcc := ((hcb.cut g1).mono (E2 := E) (fun a b => rm_sub)).cw (i := i) (j := j) (up_at _ _ _) (by rw [up_ne _ _ (fun e => haj e.symm), up_at])
        have nb : ∀ {r l}, va_up (va_up mR j none) a none r = some l → mR r = some l ∧ ¬ l = i := fun {r l} h => by
          by_cases e : r = a
          · rw [e, up_at] at h; cases h
          · rw [up_ne _ _ e] at h
            by_cases e2 : r = j
            · rw [e2, up_at] at h; cases h
            · rw [up_ne _ _ e2] at h
              refine ⟨h, fun e3 => ?_⟩
              rw [e3] at h
              have := (hm.r h).2.2.2
              rw [qi] at this
              exact e (Option.some.inj this).symm
        have hE2 : EB nl nr (cwE E (some i) (some j) none) := hE.sub (fun a b h => (cw2.mp h).1)
        have key : iSm E mL mR nl nr i j = true ↔ ¬ LMx nl nr (cwE E (some i) (some j) none) (sz nl (va_up (va_up mL b none) i none)) := by
          constructor
          · intro h hl
            obtain ⟨Sx, c1, c2, c3⟩ := cert_of hcc hnl hnr hE2 hl
            have cb : Sx b = true := c1 b kb.1 (by rw [up_ne _ _ ebi, up_at])
            have d : CL E mR (fun l => Sx l = true ∧ ¬ l = i) := fun l r hs he => by
              by_cases e : r = j
              · exact ⟨b, by rw [e]; exact qj, cb, ebi⟩
              · obtain ⟨l', x, y⟩ := c2 l r hs.1 (cw2.mpr ⟨he, hs.2, e⟩)
                exact ⟨l', (nb x).1, y, (nb x).2⟩
            have fr : ∀ l, l < nl → mL l = none → Sx l = true ∧ ¬ l = i := fun l hl h => by
              have e : ¬ l = i := fun e => by rw [e, qi] at h; cases h
              refine ⟨c1 l hl ?_, e⟩
              rw [up_ne _ _ e]
              by_cases e2 : l = b
              · rw [e2, up_at]
              · rw [up_ne _ _ e2]; exact h
            have n1 : ¬ LHl E mL mR nl i = true := fun h => (CL.L d fr 12 i h).2 rfl
            have n2 : ¬ RHl E mL mR nr b = true := by rw [CL.R hm d ⟨cb, ebi⟩]; decide
            have n3 : ¬ RC E mL mR nl nr b i = true := fun h => (CL.RT d ⟨cb, ebi⟩ (RC_RT h)).2 rfl
            unfold iSm at h
            rw [Bool.and_eq_true, decide_eq_true_eq, hpR, Bool.or_eq_true, qj] at h
            obtain ⟨h1, h2⟩ := h
            by_cases lb : LHl E mL mR nl b = true
            · rw [pL_0 lb] at h1
              unfold pL at h1
              exact n1 (prt_0.mp h1)
            · have pb := pL_1.mpr ⟨lb, n2⟩
              rw [pb] at h1
              rcases h2 with h2 | h2
              · rw [decide_eq_true h1] at h2; cases h2
              · have h2 : (RC E mL mR nl nr i b && RC E mL mR nl nr b i) = true := h2
                rw [Bool.and_eq_true] at h2
                exact n3 h2.2
          · intro hno
            refine Classical.byContradiction fun h => hno ?_
            have f1 : ¬ LHl E mL mR nl i = true := fun k => h (iSm_yes0 (by rw [hpR, pL_0 k, pL_0 (LHl_fwd hm hnl hnr k hst)]) (by rw [pL_0 k]; decide))
            have dis : ∀ z, RHl E mL mR nr z = true → ¬ LHl E mL mR nl z = true := fun z k k2 => by
              rw [LR_no hm hnl hnr hE hx k2] at k; cases k
            have f2 : ¬ RHl E mL mR nr b = true := fun k => by
              have k2 := RHl_bwd hm hnl hnr k hst
              exact h (iSm_yes0 (by rw [hpR, pL_2 (dis _ k2) k2, pL_2 (dis _ k) k]) (by rw [pL_2 (dis _ k2) k2]; decide))
            have f3 : ¬ RT (ST E mR) b i := fun k => by
              have lb : ¬ LHl E mL mR nl b = true := fun z => f1 (RT_L hm hnl hnr k z)
              have ri : ¬ RHl E mL mR nr i = true := fun z => f2 (RT_R hm hnl hnr k z)
              have lt : ∀ w z, w < nl → RT (ST E mR) w z → z < nl := fun w z hw q => RT.ind (P := fun w => w < nl) hw (fun b c _ _ ⟨r, q1, q2⟩ => (hm.r q2).1) q
              have r1 := RC_of hm hnr k (fun w x y => SQ_of (lt b w kb.1 x) (fun z => f1 (RT_L hm hnl hnr y z)) (fun z => f2 (RT_R hm hnl hnr x z)))
              have r2 := RC_of hm hnr (RT.refl.tail hst) (fun w x y => SQ_of (lt i w hb.1 x) (fun z => lb (RT_L hm hnl hnr y z)) (fun z => ri (RT_R hm hnl hnr x z)))
              exact h (iSm_yes1 (by rw [hpR, pL_1.mpr ⟨f1, ri⟩, pL_1.mpr ⟨lb, f2⟩]) qj r2 r1)
            refine CERT.mk' (P := fun l => LHl E mL mR nl l = true ∨ RT (ST E mR) b l ∨ l = i) (fun l hl k => ?_) (fun l r hs he => ?_) hcc
            · by_cases e : l = i
              · exact Or.inr (Or.inr e)
              · rw [up_ne _ _ e] at k
                by_cases e2 : l = b
                · subst e2; exact Or.inr (Or.inl RT.refl)
                · rw [up_ne _ _ e2] at k
                  exact Or.inl (LHl_free hnl hl k)
            · obtain ⟨he0, hli, hrj⟩ := cw2.mp he
              have fin : ∀ l', mR r = some l' → ¬ l' = i → va_up (va_up mR j none) a none r = some l' := fun l' k e => by
                rw [up_ne, up_ne _ _ hrj]
                · exact k
                · intro e2
                  rw [e2, ka.2.2.2] at k
                  exact e (Option.some.inj k).symm
              rcases hs with hs | hs | hs
              · obtain ⟨l', x, y⟩ := hcl l r hs he0
                exact ⟨l', fin l' x (fun e => f1 (by rw [← e]; exact y)), Or.inl y⟩
              · cases k : mR r with
                | none => exact absurd (RT_R hm hnl hnr hs (RHl_free hm hnr (hE l r he0).2 he0 k)) f2
                | some l' =>
                  have q := hs.tail ⟨r, he0, k⟩
                  exact ⟨l', by rw [fin l' k (fun e => f3 (by rw [← e]; exact q))], Or.inr (Or.inl q)⟩
              · exact absurd hs hli
        rw [Bool.eq_iff_iff, key, decide_eq_true_eq]
        constructor
        · intro q
          have : ∃ aL aR, MT nl nr (cwE E (some i) (some j) none) aL aR ∧ sz nl (va_up (va_up mL b none) i none) < sz nl aL := by
            refine Classical.byContradiction fun c => q (fun aL aR ha => ?_)
            rcases Nat.lt_or_ge (sz nl (va_up (va_up mL b none) i none)) (sz nl aL) with z | z
            · exact absurd ⟨aL, aR, ha, z⟩ c
            · exact z
          obtain ⟨aL, aR, ha, hlt⟩ := this
          exact cw_hit hm hnr hE hx hij ha (by omega)
        · intro h hl
          rw [mst_eq hnr hcc hl] at h
          omega
end EDGE2
