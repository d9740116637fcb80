/-! which edges lie in some largest matching, and in all of them -/
section EDGES
variable {nl nr : Nat} {E : Nat → Nat → Bool} {mL mR : Nat → Option Nat}
/-- a cover's set without free neighbours: kept, classical -/
theorem CERT.mk' {P : Nat → Prop} (h1 : ∀ l, l < nl → mL l = none → P l) (h2 : ∀ l r, P l → E l r = true → ∃ l', mR r = some l' ∧ P l') (hm : MT nl nr E mL mR) : LMx nl nr E (sz nl mL) := by
  haveI : ∀ l, Decidable (P l) := fun l => Classical.propDecidable _
  exact cert hm (fun l => decide (P l)) (fun l hl hf => decide_eq_true (h1 l hl hf)) (fun l r hs he => by
    obtain ⟨l', a, b⟩ := h2 l r (of_decide_eq_true hs) he
    exact ⟨l', a, decide_eq_true b⟩)
theorem LHl_CL (hm : MT nl nr E mL mR) (hnl : nl ≤ 12) (hnr : nr ≤ 12) (hE : EB nl nr E) (hx : LMx nl nr E (sz nl mL)) : CL E mR (fun l => LHl E mL mR nl l = true) := by
  obtain ⟨Sx, c1, c2, c3⟩ := cert_of hm hnl hnr hE hx
  intro l r hl he
  have hs : Sx l = true := CL.L (E := E) (mL := mL) (mR := mR) (nl := nl) (S := fun l => Sx l = true) (fun l r a b => c2 l r a b) (fun l a b => c1 l a b) 12 l hl
  obtain ⟨l', a, -⟩ := c2 l r hs he
  exact ⟨l', a, LHl_fwd hm hnl hnr hl ⟨r, he, a⟩⟩
theorem LR_no (hm : MT nl nr E mL mR) (hnl : nl ≤ 12) (hnr : nr ≤ 12) (hE : EB nl nr E) (hx : LMx nl nr E (sz nl mL)) {l : Nat} (h : LHl E mL mR nl l = true) : RHl E mL mR nr l = false :=
  CL.R hm (LHl_CL hm hnl hnr hE hx) h
theorem SQ_of {z : Nat} (hz : z < nl) (h1 : ¬ LHl E mL mR nl z = true) (h2 : ¬ RHl E mL mR nr z = true) : SQ nl nr E mL mR z := by
  unfold SQ sqr
  rw [Bool.not_eq_true] at h1 h2
  rw [h1, h2, decide_eq_true hz]
  rfl
theorem pL_0 {z : Nat} (h : LHl E mL mR nl z = true) : pL E mL mR nl nr z = 0 := by unfold pL prt; rw [h]; rfl
theorem pL_1 {z : Nat} : pL E mL mR nl nr z = 1 ↔ ¬ LHl E mL mR nl z = true ∧ ¬ RHl E mL mR nr z = true := by
  unfold pL
  rw [prt_1, Bool.not_eq_true, Bool.not_eq_true]
theorem pL_2 {z : Nat} (h1 : ¬ LHl E mL mR nl z = true) (h2 : RHl E mL mR nr z = true) : pL E mL mR nl nr z = 2 := by
  rw [Bool.not_eq_true] at h1
  unfold pL prt; rw [h1, h2]; rfl
theorem cwE_rm (hE : EB nl nr E) (hnr : nr ≤ 12) {i j : Nat} (hj : j < nr) : cwE E none none (some (12 * i + j)) = rmE E i j := by
  funext l r
  unfold cwE rmE
  cases k : E l r with
  | false => rfl
  | true =>
    have := hE l r k
    have e : (some (12 * i + j) == some (12 * l + r)) = (decide (l = i) && decide (r = j)) := by
      rw [Bool.eq_iff_iff, Bool.and_eq_true, decide_eq_true_eq, decide_eq_true_eq, beq_iff_eq, Option.some.injEq]
      omega
    rw [e]
    simp
/-- a pair lies in every largest matching -/
theorem all_cert (hm : MT nl nr E mL mR) (hnl : nl ≤ 12) (hnr : nr ≤ 12) (hE : EB nl nr E) (hx : LMx nl nr E (sz nl mL)) {i j : Nat} (hk : mL i = some j) : (pL E mL mR nl nr i = 1 ∧ ∀ z, fns E mL mR nl nr i z = true → z = i) ↔ LMx nl nr (rmE E i j) (sz nl (va_up mL i none)) := by
  have hij := hm.1 i j hk
  have hc := hm.cut hk
  have hE2 : EB nl nr (rmE E i j) := hE.sub (fun a b => rm_sub)
  have rmI : ∀ {l r}, E l r = true → ¬ (l = i ∧ r = j) → rmE E i j l r = true := fun {l r} h q => by
    unfold rmE
    rw [h]
    by_cases e : l = i <;> simp [e]
    exact fun e2 => q ⟨e, e2⟩
  have rmN : ∀ {r}, rmE E i j i r = true → ¬ r = j := fun {r} h e => by
    subst e
    unfold rmE at h
    simp at h
  have nb : ∀ {r l}, va_up mR j none r = some l → mR r = some l ∧ ¬ r = j ∧ ¬ l = i := fun {r l} h => by
    by_cases e : r = j
    · subst e; rw [up_at] at h; cases h
    · rw [up_ne _ _ e] at h
      refine ⟨h, e, fun e2 => ?_⟩
      subst e2
      have := (hm.r h).2.2.2
      rw [hk] at this
      cases this
      exact e rfl
  constructor
  · rintro ⟨hp, hf⟩
    obtain ⟨p1, p2⟩ := pL_1.mp hp
    refine CERT.mk' (P := fun l => LHl E mL mR nl l = true ∨ RT (ST E mR) i l) (fun l hl h => ?_) (fun l r hs he => ?_) hc
    · by_cases e : l = i
      · subst e; exact Or.inr RT.refl
      · rw [up_ne _ _ e] at h
        exact Or.inl (LHl_free hnl hl h)
    · have he0 : E l r = true := rm_sub he
      rcases hs with hs | hs
      · obtain ⟨l', a, b⟩ := LHl_CL hm hnl hnr hE hx l r hs he0
        refine ⟨l', ?_, Or.inl b⟩
        rw [up_ne]
        · exact a
        · intro e
          subst e
          rw [hij.2.2.2] at a
          cases a
          exact p1 b
      · cases k : mR r with
        | none => exact absurd (RT_R hm hnl hnr hs (RHl_free hm hnr (hE l r he0).2 he0 k)) p2
        | some l' =>
          have hs2 : RT (ST E mR) i l' := hs.tail ⟨r, he0, k⟩
          refine ⟨l', ?_, Or.inr hs2⟩
          rw [up_ne]
          · exact k
          · intro e
            subst e
            have hli : RT (ST E mR) l i := RT.refl.tail ⟨r, he0, hij.2.2.2⟩
            have sq : ∀ w, RT (ST E mR) i w → RT (ST E mR) w i → SQ nl nr E mL mR w := fun w a b => by
              refine SQ_of ?_ (fun h => p1 (RT_L hm hnl hnr b h)) (fun h => p2 (RT_R hm hnl hnr a h))
              exact RT.ind (P := fun w => w < nl) hij.1 (fun b c _ _ ⟨r, q1, q2⟩ => (hm.r q2).1) a
            have tr' : ∀ {a b c}, RT (ST E mR) a b → RT (ST E mR) b c → RT (ST E mR) a c := fun {a b c} x y => RT.ind (P := fun c => RT (ST E mR) a c) x (fun _ _ _ ih q => ih.tail q) y
            have r1 := RC_of hm hnr hs (fun w a b => sq w a (tr' b hli))
            have r2 := RC_of hm hnr hli (fun w a b => sq w (tr' hs a) b)
            have e := hf l (by unfold fns; rw [r1, r2]; rfl)
            subst e
            exact rmN he rfl
  · intro hx2
    obtain ⟨Sx, c1, c2, c3⟩ := cert_of hc hnl hnr hE2 hx2
    have ci : Sx i = true := c1 i hij.1 (up_at _ _ _)
    have d1 : CL E mR (fun l => Sx l = true) := fun l r hs he => by
      by_cases q : l = i ∧ r = j
      · rw [q.2]; exact ⟨i, hij.2.2.2, ci⟩
      · obtain ⟨l', a, b⟩ := c2 l r hs (rmI he q)
        exact ⟨l', (nb a).1, b⟩
    have d2 : CL E mR (fun l => Sx l = true ∧ ¬ l = i) := fun l r hs he => by
      obtain ⟨l', a, b⟩ := c2 l r hs.1 (rmI he (fun q => hs.2 q.1))
      exact ⟨l', (nb a).1, b, (nb a).2.2⟩
    have fr : ∀ l, l < nl → mL l = none → Sx l = true ∧ ¬ l = i := fun l hl h => by
      have e : ¬ l = i := fun e => by rw [e, hk] at h; cases h
      exact ⟨c1 l hl (by rw [up_ne _ _ e]; exact h), e⟩
    refine ⟨pL_1.mpr ⟨fun h => (CL.L d2 fr 12 i h).2 rfl, ?_⟩, fun z hz => ?_⟩
    · rw [CL.R hm d1 ci]; decide
    · unfold fns at hz
      rw [Bool.and_eq_true] at hz
      have a := CL.RT d1 ci (RC_RT hz.1)
      refine Classical.byContradiction fun e => ?_
      exact (CL.RT d2 ⟨a, e⟩ (RC_RT hz.2)).2 rfl
theorem iAl_eq (hm : MT nl nr E mL mR) (hnl : nl ≤ 12) (hnr : nr ≤ 12) (hE : EB nl nr E) (hx : LMx nl nr E (sz nl mL)) {i j : Nat} (hij : E i j = true) : iAl E mL mR nl nr i j = decide (mst (wyr (cwE E none none (some (12 * i + j))) nr nl) (2 ^ nr) < sz nl mL) := by
  have hb := hE i j hij
  rw [cwE_rm hE hnr hb.2]
  by_cases hk : mL i = some j
  · have hc := hm.cut hk
    have hs := sz_cut hb.1 hk
    have k := all_cert hm hnl hnr hE hx hk
    have e1 : iAl E mL mR nl nr i j = true ↔ (pL E mL mR nl nr i = 1 ∧ ∀ z, fns E mL mR nl nr i z = true → z = i) := by
      unfold iAl
      rw [hk, Bool.and_eq_true, Bool.and_eq_true, decide_eq_true_eq, decide_eq_true_eq]
      constructor
      · rintro ⟨-, a, b⟩
        refine ⟨a, fun z hz => ?_⟩
        rw [mk_bit (by omega)] at b
        have hz12 : z < nl := by
          unfold fns at hz
          rw [Bool.and_eq_true] at hz
          exact RC_in hz.1
        have := mk_inj b (i := z) (by omega)
        rw [hz] at this
        exact of_decide_eq_true this.symm
      · rintro ⟨a, b⟩
        refine ⟨by simp, a, ?_⟩
        rw [mk_bit (by omega)]
        refine mk_congr (fun z hz => ?_)
        rw [Bool.eq_iff_iff, decide_eq_true_eq]
        refine ⟨b z, fun e => ?_⟩
        subst e
        obtain ⟨p1, p2⟩ := pL_1.mp a
        have sq : ∀ w, RT (ST E mR) z w → RT (ST E mR) w z → SQ nl nr E mL mR w := fun w a b => by
          refine SQ_of ?_ (fun h => p1 (RT_L hm hnl hnr b h)) (fun h => p2 (RT_R hm hnl hnr a h))
          exact RT.ind (P := fun w => w < nl) hb.1 (fun b c _ _ ⟨r, q1, q2⟩ => (hm.r q2).1) a
        have r1 := RC_of hm hnr (RT.refl (a := z)) sq
        unfold fns
        rw [r1]
        rfl
    rw [Bool.eq_iff_iff, e1, k, decide_eq_true_eq]
    constructor
    · intro h
      rw [mst_eq hnr hc h]
      omega
    · intro h
      refine Classical.byContradiction fun q => ?_
      have : ∃ aL aR, MT nl nr (rmE E i j) aL aR ∧ sz nl (va_up mL i none) < sz nl aL := by
        refine Classical.byContradiction fun c => q (fun aL aR ha => ?_)
        rcases Nat.lt_or_ge (sz nl (va_up mL i none)) (sz nl aL) with z | z
        · exact absurd ⟨aL, aR, ha, z⟩ c
        · exact z
      obtain ⟨aL, aR, ha, hlt⟩ := this
      have e : sz nl aL = sz nl mL := by
        have := hx aL aR (ha.mono (fun a b => rm_sub))
        omega
      rw [mst_eq hnr ha (by rw [e]; exact hx.sub (fun a b => rm_sub)), e] at h
      omega
  · have e : iAl E mL mR nl nr i j = false := by
      unfold iAl
      rw [show (mL i == some j) = false by simpa using hk]
      rfl
    rw [e, mst_eq hnr (hm.keep hk) (hx.sub (fun a b => rm_sub))]
    simp
end EDGES
