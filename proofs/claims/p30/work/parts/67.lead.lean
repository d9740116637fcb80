/-! leading, as paths -/
def RTn (R : Nat → Nat → Prop) (a : Nat) : Nat → Nat → Prop
  | 0, c => c = a
  | n + 1, c => ∃ b, RTn R a n b ∧ R b c
def RT (R : Nat → Nat → Prop) (a c : Nat) : Prop := ∃ n, RTn R a n c
theorem RT.refl {R : Nat → Nat → Prop} {a : Nat} : RT R a a := ⟨0, rfl⟩
theorem RT.tail {R : Nat → Nat → Prop} {a b c : Nat} (h : RT R a b) (k : R b c) : RT R a c := by
  obtain ⟨n, h⟩ := h
  exact ⟨n + 1, b, h, k⟩
theorem RT.ind {R : Nat → Nat → Prop} {a : Nat} {P : Nat → Prop} (h0 : P a) (h1 : ∀ b c, RT R a b → P b → R b c → P c) : ∀ {z}, RT R a z → P z := by
  rintro z ⟨n, h⟩
  induction n generalizing z with
  | zero => have h : z = a := h; rw [h]; exact h0
  | succ n ih => obtain ⟨b, h, k⟩ := h; exact h1 b z ⟨n, h⟩ (ih h) k
theorem RT.head {R : Nat → Nat → Prop} {a b c : Nat} (h : R a b) (k : RT R b c) : RT R a c :=
  RT.ind (P := fun c => RT R a c) (RT.refl.tail h) (fun _ _ _ ih q => ih.tail q) k
theorem wk_tr {R : Nat → Nat → Bool} : ∀ n a b c, c < n → wk R n a c = true → wk R n c b = true → wk R n a b = true
  | 0, a, b, c, h, _, _ => absurd h (Nat.not_lt_zero _)
  | n + 1, a, b, c, h, h1, h2 => by
    have ih := wk_tr (R := R) n
    rw [wk_s, Bool.or_eq_true, Bool.and_eq_true] at h1 h2 ⊢
    by_cases e : c = n
    · subst e
      refine Or.inr ⟨?_, ?_⟩
      · rcases h1 with h1 | h1
        · exact h1
        · exact h1.1
      · rcases h2 with h2 | h2
        · exact h2
        · exact h2.2
    · have hc : c < n := by omega
      rcases h1 with h1 | h1
      · rcases h2 with h2 | h2
        · exact Or.inl (ih a b c hc h1 h2)
        · exact Or.inr ⟨ih a n c hc h1 h2.1, h2.2⟩
      · rcases h2 with h2 | h2
        · exact Or.inr ⟨h1.1, ih n b c hc h1.2 h2⟩
        · exact Or.inr ⟨h1.1, h2.2⟩
/-- one step: along an edge, back along a kept pair -/
def ST (E : Nat → Nat → Bool) (mR : Nat → Option Nat) (a z : Nat) : Prop := ∃ r, E a r = true ∧ mR r = some z
theorem wk_RT {R : Nat → Nat → Bool} {Q : Nat → Nat → Prop} (h : ∀ a b, R a b = true → RT Q a b) : ∀ n a b, wk R n a b = true → RT Q a b
  | 0, a, b, k => h a b k
  | n + 1, a, b, k => by
    rw [wk_s, Bool.or_eq_true, Bool.and_eq_true] at k
    rcases k with k | k
    · exact wk_RT h n a b k
    · have x := wk_RT h n a n k.1
      have y := wk_RT h n n b k.2
      exact RT.ind (P := fun c => RT Q a c) x (fun _ _ _ ih q => ih.tail q) y
section LEAD
variable {nl nr : Nat} {E : Nat → Nat → Bool} {mL mR : Nat → Option Nat}
theorem RC_RT {a b : Nat} (h : RC E mL mR nl nr a b = true) : RT (ST E mR) a b := by
  refine wk_RT (fun a b k => ?_) nl a b h
  unfold rd0 at k
  rw [Bool.and_eq_true, Bool.and_eq_true, Bool.or_eq_true, decide_eq_true_eq] at k
  rcases k.2.1 with q | q
  · obtain ⟨r, hr, q⟩ := ex_iff.mp q
    rw [Bool.and_eq_true, beq_iff_eq] at q
    exact RT.refl.tail ⟨r, q.1, q.2⟩
  · rw [q]; exact RT.refl
abbrev SQ (nl nr : Nat) (E : Nat → Nat → Bool) (mL mR : Nat → Option Nat) (z : Nat) : Prop := sqr nl (LHl E mL mR nl) (RHl E mL mR nr) z = true
theorem RC_of {a b : Nat} (hm : MT nl nr E mL mR) (hnr : nr ≤ 12) (h : RT (ST E mR) a b) (hs : ∀ w, RT (ST E mR) a w → RT (ST E mR) w b → SQ nl nr E mL mR w) : RC E mL mR nl nr a b = true := by
  have ha := hs a RT.refl h
  have lt : ∀ w, SQ nl nr E mL mR w → w < nl := fun w k => by
    unfold SQ sqr at k
    rw [Bool.and_eq_true, decide_eq_true_eq] at k
    exact k.1
  have key : ∀ c, RT (ST E mR) a c → RT (ST E mR) c b → RC E mL mR nl nr a c = true := by
    intro c h1
    refine RT.ind (P := fun c => RT (ST E mR) c b → RC E mL mR nl nr a c = true) (fun _ => ?_) (fun x y q1 ih q2 h2 => ?_) h1
    · refine wk_le ?_ nl
      unfold rd0
      rw [ha]
      simp
    · have hx := hs x q1 (RT.head q2 h2)
      have hy := hs y (q1.tail q2) h2
      refine wk_tr nl a y x (lt x hx) (ih (RT.head q2 h2)) (wk_le ?_ nl)
      obtain ⟨r, k1, k2⟩ := q2
      have := hm.r k2
      unfold rd0
      rw [hx, hy, ptn_in (by omega) k1 k2]
      rfl
  exact key b h RT.refl
/-- closed under steps, with no free neighbour -/
def CL (E : Nat → Nat → Bool) (mR : Nat → Option Nat) (S : Nat → Prop) : Prop := ∀ l r, S l → E l r = true → ∃ l', mR r = some l' ∧ S l'
theorem CL.L {S : Nat → Prop} (h : CL E mR S) (hf : ∀ l, l < nl → mL l = none → S l) : ∀ n z, itH E mR (fre nl mL) n z = true → S z
  | 0, z, k => by
    have k : fre nl mL z = true := k
    unfold fre at k
    rw [Bool.and_eq_true, decide_eq_true_eq, Option.isNone_iff_eq_none] at k
    exact hf z k.1 k.2
  | n + 1, z, k => by
    rw [itH_s, Bool.or_eq_true] at k
    rcases k with k | k
    · exact CL.L h hf n z k
    · obtain ⟨r, hr, q⟩ := ex_iff.mp k
      rw [Bool.and_eq_true, beq_iff_eq] at q
      obtain ⟨l, hl, q2⟩ := ex_iff.mp q.1
      rw [Bool.and_eq_true] at q2
      obtain ⟨l', a, b⟩ := h l r (CL.L h hf n l q2.1) q2.2
      rw [q.2] at a
      cases a
      exact b
theorem CL.R {S : Nat → Prop} (hm : MT nl nr E mL mR) (h : CL E mR S) {z : Nat} (hz : S z) : RHl E mL mR nr z = false := by
  have key : ∀ n r, itH (tr E) mL (fre nr mR) n r = true → ∀ l, mR r = some l → ¬ S l := by
    intro n
    induction n with
    | zero =>
      intro r k l hl
      have k : fre nr mR r = true := k
      unfold fre at k
      rw [Bool.and_eq_true, hl] at k
      exact absurd k.2 (by simp)
    | succ n ih =>
      intro r k l hl hs
      rw [itH_s, Bool.or_eq_true] at k
      rcases k with k | k
      · exact ih r k l hl hs
      · obtain ⟨l2, hl2, q⟩ := ex_iff.mp k
        rw [Bool.and_eq_true, beq_iff_eq] at q
        have e := (hm.r hl).2.2.2
        have e2 := (hm.1 _ _ q.2).2.2.2
        rw [hl] at e2
        cases e2
        obtain ⟨r2, hr2, q2⟩ := ex_iff.mp q.1
        rw [Bool.and_eq_true] at q2
        obtain ⟨l', a, b⟩ := h l r2 hs q2.2
        exact ih r2 q2.1 l' a b
  rw [← Bool.not_eq_true]
  intro k
  obtain ⟨r, hr, q⟩ := ex_iff.mp k
  rw [Bool.and_eq_true] at q
  obtain ⟨l', a, b⟩ := h z r hz q.2
  exact key 11 r q.1 l' a b
theorem CL.RT {S : Nat → Prop} (h : CL E mR S) {a z : Nat} (ha : S a) (k : RT (ST E mR) a z) : S z := by
  refine RT.ind (P := S) ha (fun b c _ ih q => ?_) k
  obtain ⟨r, k1, k2⟩ := q
  obtain ⟨l', a, b⟩ := h _ r ih k1
  rw [k2] at a
  cases a
  exact b
theorem fre_lt12 {n : Nat} {p : Nat → Option Nat} (hn : n ≤ 12) : ∀ z, fre n p z = true → z < 12 := fun z h => by
  unfold fre at h
  rw [Bool.and_eq_true, decide_eq_true_eq] at h
  omega
theorem LHl_stab (hm : MT nl nr E mL mR) (hnl : nl ≤ 12) : LHl E mL mR nl = itH E mR (fre nl mL) 11 := itH_stab (fre_lt12 hnl) (fun r z h => by have := (hm.r h).1; omega)
theorem RHr_stab (hm : MT nl nr E mL mR) (hnr : nr ≤ 12) : RHr E mL mR nr = itH (tr E) mL (fre nr mR) 11 := itH_stab (fre_lt12 hnr) (fun r z h => by have := (hm.1 _ _ h).2.1; omega)
theorem LHl_fwd (hm : MT nl nr E mL mR) (hnl : nl ≤ 12) (hnr : nr ≤ 12) {l z : Nat} (h : LHl E mL mR nl l = true) (k : ST E mR l z) : LHl E mL mR nl z = true := by
  have h2 := h
  rw [LHl_stab hm hnl] at h2
  obtain ⟨r, k1, k2⟩ := k
  have e : LHl E mL mR nl z = (itH E mR (fre nl mL) 11 z || ptn mR (nbr E (itH E mR (fre nl mL) 11)) z) := rfl
  have lt := itH_lt (b := 12) (fre_lt12 hnl) (fun r z h => by have := (hm.r h).1; omega) h2
  rw [e, ptn_in (by have := (hm.r k2).2.1; omega) (nbr_in lt h2 k1) k2, Bool.or_true]
theorem RHl_bwd (hm : MT nl nr E mL mR) (hnl : nl ≤ 12) (hnr : nr ≤ 12) {l z : Nat} (h : RHl E mL mR nr z = true) (k : ST E mR l z) : RHl E mL mR nr l = true := by
  obtain ⟨r, k1, k2⟩ := k
  have hr := hm.r k2
  have a : RHr E mL mR nr r = true := by
    have e : RHr E mL mR nr r = (itH (tr E) mL (fre nr mR) 11 r || ptn mL (RHl E mL mR nr) r) := rfl
    rw [e, ptn_in (by omega) h hr.2.2.2, Bool.or_true]
  rw [RHr_stab hm hnr] at a
  exact nbr_in (by omega) a k1
theorem RHl_free (hm : MT nl nr E mL mR) (hnr : nr ≤ 12) {l r : Nat} (hr : r < nr) (h : E l r = true) (k : mR r = none) : RHl E mL mR nr l = true := by
  have a : itH (tr E) mL (fre nr mR) 11 r = true := itH_le (n := 0) (by omega) (fre_none hr k).symm
  exact nbr_in (by omega) a h
theorem LHl_free (hnl : nl ≤ 12) {l : Nat} (hl : l < nl) (k : mL l = none) : LHl E mL mR nl l = true := itH_le (n := 0) (by omega) (fre_none hl k).symm
theorem RT_R (hm : MT nl nr E mL mR) (hnl : nl ≤ 12) (hnr : nr ≤ 12) {a z : Nat} (k : RT (ST E mR) a z) (h : RHl E mL mR nr z = true) : RHl E mL mR nr a = true := by
  exact RT.ind (P := fun z => RHl E mL mR nr z = true → RHl E mL mR nr a = true) (fun h => h) (fun _ _ _ ih q h => ih (RHl_bwd hm hnl hnr h q)) k h
theorem RT_L (hm : MT nl nr E mL mR) (hnl : nl ≤ 12) (hnr : nr ≤ 12) {a z : Nat} (k : RT (ST E mR) a z) (h : LHl E mL mR nl a = true) : LHl E mL mR nl z = true := by
  exact RT.ind (P := fun z => LHl E mL mR nl z = true) h (fun _ _ _ ih q => LHl_fwd hm hnl hnr ih q) k
theorem LHr_of (hm : MT nl nr E mL mR) (hnl : nl ≤ 12) (hnr : nr ≤ 12) {b j : Nat} (k : mR j = some b) : LHr E mL mR nl j = LHl E mL mR nl b := by
  have kb := hm.r k
  rw [Bool.eq_iff_iff]
  constructor
  · intro h
    obtain ⟨l, hl, q⟩ := ex_iff.mp h
    rw [Bool.and_eq_true] at q
    exact LHl_fwd hm hnl hnr (by rw [LHl_stab hm hnl]; exact q.1) ⟨j, q.2, k⟩
  · intro h
    have e : LHl E mL mR nl b = (itH E mR (fre nl mL) 11 b || ptn mR (LHr E mL mR nl) b) := rfl
    have key : ∀ n, n ≤ 11 → itH E mR (fre nl mL) n b = true → LHr E mL mR nl j = true := by
      intro n
      induction n with
      | zero =>
        intro _ h
        have h : fre nl mL b = true := h
        unfold fre at h
        rw [Bool.and_eq_true, kb.2.2.2] at h
        exact absurd h.2 (by simp)
      | succ n ih =>
        intro hn h
        rw [itH_s, Bool.or_eq_true] at h
        rcases h with h | h
        · exact ih (by omega) h
        · obtain ⟨r, hr, q⟩ := ex_iff.mp h
          rw [Bool.and_eq_true, beq_iff_eq] at q
          have e := (hm.r q.2).2.2.2
          rw [kb.2.2.2] at e
          cases e
          obtain ⟨l, hl, q2⟩ := ex_iff.mp q.1
          rw [Bool.and_eq_true] at q2
          exact nbr_in hl (itH_le (by omega) q2.1) q2.2
    exact key 11 (Nat.le_refl _) (by rw [← LHl_stab hm hnl]; exact h)
theorem RHr_of (hm : MT nl nr E mL mR) (hnl : nl ≤ 12) (hnr : nr ≤ 12) {b j : Nat} (k : mR j = some b) : RHr E mL mR nr j = RHl E mL mR nr b := by
  have kb := hm.r k
  rw [Bool.eq_iff_iff]
  constructor
  · intro h
    have key : ∀ n, itH (tr E) mL (fre nr mR) n j = true → n ≤ 12 → RHl E mL mR nr b = true := by
      intro n
      induction n with
      | zero =>
        intro h _
        have h : fre nr mR j = true := h
        unfold fre at h
        rw [Bool.and_eq_true, k] at h
        exact absurd h.2 (by simp)
      | succ n ih =>
        intro h hn
        rw [itH_s, Bool.or_eq_true] at h
        rcases h with h | h
        · exact ih h (by omega)
        · obtain ⟨l, hl, q⟩ := ex_iff.mp h
          rw [Bool.and_eq_true, beq_iff_eq] at q
          have e := (hm.1 _ _ q.2).2.2.2
          rw [k] at e
          cases e
          obtain ⟨r, hr, q2⟩ := ex_iff.mp q.1
          rw [Bool.and_eq_true] at q2
          exact nbr_in hr (itH_le (by omega) q2.1) q2.2
    exact key 12 h (Nat.le_refl _)
  · intro h
    have e : RHr E mL mR nr j = (itH (tr E) mL (fre nr mR) 11 j || ptn mL (RHl E mL mR nr) j) := rfl
    rw [e, ptn_in (by omega) h kb.2.2.2, Bool.or_true]
theorem pR_of (hm : MT nl nr E mL mR) (hnl : nl ≤ 12) (hnr : nr ≤ 12) {b j : Nat} (k : mR j = some b) : pR E mL mR nl nr j = pL E mL mR nl nr b := by
  unfold pR pL prt
  rw [LHr_of hm hnl hnr k, RHr_of hm hnl hnr k]
end LEAD
