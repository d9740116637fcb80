/-! the graph and its matchings, turned; two largest matchings have the same closed sets -/
theorem MT.tr {nl nr : Nat} {E : Nat → Nat → Bool} {mL mR : Nat → Option Nat} (h : MT nl nr E mL mR) : MT nr nl (tr E) mR mL :=
  ⟨fun r l q => by obtain ⟨a, b, c, d⟩ := h.r q; exact ⟨b, a, c, d⟩, fun l r q => (h.1 l r q).2.2.2⟩
theorem EB.tr {nl nr : Nat} {E : Nat → Nat → Bool} (h : EB nl nr E) : EB nr nl (tr E) := fun a b q => ⟨(h b a q).2, (h b a q).1⟩
theorem sz_tr {nl nr : Nat} {E : Nat → Nat → Bool} {mL mR : Nat → Option Nat} (hm : MT nl nr E mL mR) (hnr : nr ≤ 12) : sz nr mR = sz nl mL := by
  rw [← sz_R hm hnr]
  refine (cnt_wide hnr (fun i a _ => ?_)).symm
  cases q : mR i with
  | none => rfl
  | some v => have := (hm.r q).2.1; omega
theorem LMx.tr {nl nr n : Nat} {E : Nat → Nat → Bool} (h : LMx nl nr E n) (hnl : nl ≤ 12) : LMx nr nl (tr E) n := fun aL aR ha => by
  have k := h aR aL ha.tr
  rw [sz_tr ha hnl] at k
  exact k
/-- the largest size is the graph's alone -/
theorem LMx.uniq {nl nr : Nat} {E : Nat → Nat → Bool} {mL mR bL bR : Nat → Option Nat} (hm : MT nl nr E mL mR) (hb : MT nl nr E bL bR) (h1 : LMx nl nr E (sz nl mL)) (h2 : LMx nl nr E (sz nl bL)) : sz nl mL = sz nl bL := Nat.le_antisymm (h2 mL mR hm) (h1 bL bR hb)
/-- a mirror's kept pairs, seen from this side -/
theorem INV.other {nl nr ne n ne2 n2 : Nat} {E : Nat → Nat → Bool} {mL mR aL aR : Nat → Option Nat} (h : INV nl nr ne n E mL mR) (h2 : INV nr nl ne2 n2 (tr E) aL aR) : MT nl nr E aR aL ∧ n2 = n ∧ sz nl aR = sz nl mL ∧ n = sz nl mL ∧ LMx nl nr E (sz nl mL) := by
  obtain ⟨hnl, hnr, hb, hm, hn, hl, he⟩ := h
  obtain ⟨-, -, -, hm2, hn2, hl2, -⟩ := h2
  have hm3 : MT nl nr E aR aL := hm2.tr
  have e1 : sz nl aR = sz nr aL := sz_tr hm2 hnl
  have a := hl aR aL hm3
  have b := hl2 mR mL hm.tr
  rw [sz_tr hm hnr] at b
  exact ⟨hm3, by omega, by omega, hn, by rw [← hn]; exact hl⟩
theorem cnt_none {n : Nat} {p : Nat → Bool} (h : cnt n p = 0) {i : Nat} (hi : i < n) : p i = false := by
  cases q : p i with
  | false => rfl
  | true => have := cnt_out q n hi; omega
/-- an injection between sets of the same size meets all -/
theorem cnt_onto {k n : Nat} {p q : Nat → Bool} {f : Nat → Nat} (h1 : ∀ z, z < k → p z = true → f z < n ∧ q (f z) = true) (h2 : ∀ z w, z < k → w < k → p z = true → p w = true → f z = f w → z = w) (h3 : cnt n q ≤ cnt k p) {y : Nat} (hy : y < n) (hq : q y = true) : ∃ z, z < k ∧ p z = true ∧ f z = y := by
  refine Classical.byContradiction (fun hn => ?_)
  have a := cnt_inj k n p (fun z => q z && !decide (z = y)) f (fun z hz pz => by
    have b := h1 z hz pz
    have c : ¬ f z = y := fun e => hn ⟨z, hz, pz, e⟩
    refine ⟨b.1, ?_⟩
    rw [b.2, decide_eq_false c]
    rfl) h2
  have b := cnt_out hq n hy
  omega
/-- from a node over its partner in one matching back by another one -/
def fmw (bL mR : Nat → Option Nat) (z : Nat) : Nat := match bL z with
  | none => z
  | some r => match mR r with
    | none => z
    | some y => y
theorem fmw_at {bL mR : Nat → Option Nat} {z r y : Nat} (h1 : bL z = some r) (h2 : mR r = some y) : fmw bL mR z = y := by
  unfold fmw
  rw [h1]
  show (match mR r with
    | none => z
    | some y => y) = y
  rw [h2]
section MOVE
variable {nl nr : Nat} {E : Nat → Nat → Bool} {mL mR bL bR : Nat → Option Nat} {S : Nat → Bool}
/-- every neighbour of the set is matched into it -/
abbrev CB (E : Nat → Nat → Bool) (mR : Nat → Option Nat) (S : Nat → Bool) : Prop := ∀ l r, S l = true → E l r = true → ∃ l', mR r = some l' ∧ S l' = true
theorem CB.at (hm : MT nl nr E mL mR) (hb : MT nl nr E bL bR) (hc : CB E mR S) {z : Nat} (pz : (S z && (bL z).isSome) = true) : ∃ r y, bL z = some r ∧ mR r = some y ∧ S y = true ∧ mL y = some r ∧ fmw bL mR z = y ∧ y < nl ∧ bR r = some z := by
  rw [Bool.and_eq_true] at pz
  obtain ⟨r, hr⟩ := Option.isSome_iff_exists.mp pz.2
  have k := hb.1 z r hr
  obtain ⟨y, h1, h2⟩ := hc z r pz.1 k.2.2.1
  exact ⟨r, y, hr, h1, h2, hm.2 r y h1, fmw_at hr h1, (hm.r h1).1, k.2.2.2⟩
theorem CB.inj (hm : MT nl nr E mL mR) (hb : MT nl nr E bL bR) (hc : CB E mR S) (z w : Nat) (pz : (S z && (bL z).isSome) = true) (pw : (S w && (bL w).isSome) = true) (e : fmw bL mR z = fmw bL mR w) : z = w := by
  obtain ⟨r, y, a1, a2, a3, a4, a5, a6, a7⟩ := hc.at hm hb pz
  obtain ⟨r2, y2, b1, b2, b3, b4, b5, b6, b7⟩ := hc.at hm hb pw
  rw [a5, b5] at e
  subst e
  rw [a4] at b4
  cases b4
  rw [a7] at b7
  exact Option.some.inj b7
theorem CB.le (hm : MT nl nr E mL mR) (hb : MT nl nr E bL bR) (hc : CB E mR S) : cnt nl (fun l => S l && (bL l).isSome) ≤ cnt nl (fun l => S l && (mL l).isSome) :=
  cnt_inj nl nl _ _ (fmw bL mR) (fun z _ pz => by
    obtain ⟨r, y, a1, a2, a3, a4, a5, a6, a7⟩ := hc.at hm hb pz
    rw [a5]
    refine ⟨a6, ?_⟩
    rw [a3, a4]
    rfl) (fun z w _ _ pz pw e => hc.inj hm hb z w pz pw e)
theorem CB.move (hm : MT nl nr E mL mR) (hb : MT nl nr E bL bR) (hc : CB E mR S) (hs : cnt nl (fun l => S l && (mL l).isSome) ≤ cnt nl (fun l => S l && (bL l).isSome)) : CB E bR S := by
  intro l r sl er
  obtain ⟨l1, h1, s1⟩ := hc l r sl er
  have k1 := hm.r h1
  obtain ⟨z, -, pz, ez⟩ := cnt_onto (k := nl) (n := nl) (p := fun l => S l && (bL l).isSome) (q := fun l => S l && (mL l).isSome) (f := fmw bL mR) (fun z _ pz => by
    obtain ⟨r, y, a1, a2, a3, a4, a5, a6, a7⟩ := hc.at hm hb pz
    rw [a5]
    refine ⟨a6, ?_⟩
    rw [a3, a4]
    rfl) (fun z w _ _ pz pw e => hc.inj hm hb z w pz pw e) hs k1.1 (by rw [s1, k1.2.2.2]; rfl)
  obtain ⟨r2, y, a1, a2, a3, a4, a5, a6, a7⟩ := hc.at hm hb pz
  rw [a5] at ez
  subst ez
  rw [k1.2.2.2] at a4
  cases a4
  rw [Bool.and_eq_true] at pz
  exact ⟨z, a7, pz.1⟩
theorem cnt_and_not (n : Nat) (p : Nat → Option Nat) : cnt n (fun i => (p i).isSome) + cnt n (fun i => !(p i).isSome) = n := cnt_not n _
/-- with all free left nodes: the same set serves every matching of the same size -/
theorem CB.free (hm : MT nl nr E mL mR) (hb : MT nl nr E bL bR) (he : sz nl mL = sz nl bL) (hc : CB E mR S) (hf : ∀ l, l < nl → mL l = none → S l = true) : CB E bR S ∧ ∀ l, l < nl → bL l = none → S l = true := by
  have a1 := cnt_split nl S (fun l => (mL l).isSome)
  have a2 := cnt_split nl S (fun l => (bL l).isSome)
  have a3 := cnt_not nl (fun l => (mL l).isSome)
  have a4 := cnt_not nl (fun l => (bL l).isSome)
  have a5 : cnt nl (fun l => S l && !(mL l).isSome) = cnt nl (fun l => !(mL l).isSome) := cnt_congr (fun i hi => by
    cases q : mL i with
    | none => rw [hf i hi q]; rfl
    | some v => simp)
  have a6 : cnt nl (fun l => S l && !(bL l).isSome) ≤ cnt nl (fun l => !(bL l).isSome) := cnt_sub (fun i _ h => by
    rw [Bool.and_eq_true] at h
    exact h.2)
  have a7 := hc.le hm hb
  have e1 : cnt nl (fun l => (mL l).isSome) = sz nl mL := rfl
  have e2 : cnt nl (fun l => (bL l).isSome) = sz nl bL := rfl
  refine ⟨hc.move hm hb (by omega), fun l hl hn => ?_⟩
  have a8 := cnt_split nl (fun l => !(bL l).isSome) S
  have a9 : cnt nl (fun l => !(bL l).isSome && S l) = cnt nl (fun l => S l && !(bL l).isSome) := cnt_congr (fun i _ => Bool.and_comm _ _)
  have b := cnt_none (n := nl) (p := fun l => !(bL l).isSome && !S l) (by omega) hl
  rw [hn] at b
  cases q : S l with
  | true => rfl
  | false => rw [q] at b; cases b
end MOVE
/-! the parts are the same for all largest matchings, and change sides in the mirror -/
section SAME
variable {nl nr : Nat} {E : Nat → Nat → Bool} {mL mR bL bR : Nat → Option Nat}
theorem LHl_sub (hm : MT nl nr E mL mR) (hb : MT nl nr E bL bR) (hnl : nl ≤ 12) (hnr : nr ≤ 12) (hE : EB nl nr E) (hx : LMx nl nr E (sz nl mL)) (he : sz nl bL = sz nl mL) {z : Nat} (h : LHl E bL bR nl z = true) : LHl E mL mR nl z = true := by
  have hc : CB E mR (LHl E mL mR nl) := fun l r a b => LHl_CL hm hnl hnr hE hx l r a b
  obtain ⟨c1, c2⟩ := hc.free hm hb he.symm (fun l hl hn => LHl_free hnl hl hn)
  exact CL.L (nl := nl) (mL := bL) (S := fun l => LHl E mL mR nl l = true) c1 c2 12 z h
theorem LHl_same (hm : MT nl nr E mL mR) (hb : MT nl nr E bL bR) (hnl : nl ≤ 12) (hnr : nr ≤ 12) (hE : EB nl nr E) (hx : LMx nl nr E (sz nl mL)) (he : sz nl bL = sz nl mL) : LHl E bL bR nl = LHl E mL mR nl := by
  funext z
  rw [Bool.eq_iff_iff]
  exact ⟨fun h => LHl_sub hm hb hnl hnr hE hx he h, fun h => LHl_sub hb hm hnl hnr hE (by rw [he]; exact hx) he.symm h⟩
theorem LHr_nbr (hm : MT nl nr E mL mR) (hnl : nl ≤ 12) : LHr E mL mR nl = nbr E (LHl E mL mR nl) := by rw [LHl_stab hm hnl]; rfl
theorem LHr_same (hm : MT nl nr E mL mR) (hb : MT nl nr E bL bR) (hnl : nl ≤ 12) (hnr : nr ≤ 12) (hE : EB nl nr E) (hx : LMx nl nr E (sz nl mL)) (he : sz nl bL = sz nl mL) : LHr E bL bR nl = LHr E mL mR nl := by
  rw [LHr_nbr hm hnl, LHr_nbr hb hnl, LHl_same hm hb hnl hnr hE hx he]
theorem RHr_same (hm : MT nl nr E mL mR) (hb : MT nl nr E bL bR) (hnl : nl ≤ 12) (hnr : nr ≤ 12) (hE : EB nl nr E) (hx : LMx nl nr E (sz nl mL)) (he : sz nl bL = sz nl mL) : RHr E bL bR nr = RHr E mL mR nr :=
  LHl_same (E := tr E) hm.tr hb.tr hnr hnl hE.tr (by rw [sz_tr hm hnr]; exact hx.tr hnl) (by rw [sz_tr hm hnr, sz_tr hb hnr]; exact he)
theorem RHl_same (hm : MT nl nr E mL mR) (hb : MT nl nr E bL bR) (hnl : nl ≤ 12) (hnr : nr ≤ 12) (hE : EB nl nr E) (hx : LMx nl nr E (sz nl mL)) (he : sz nl bL = sz nl mL) : RHl E bL bR nr = RHl E mL mR nr :=
  LHr_same (E := tr E) hm.tr hb.tr hnr hnl hE.tr (by rw [sz_tr hm hnr]; exact hx.tr hnl) (by rw [sz_tr hm hnr, sz_tr hb hnr]; exact he)
theorem LR_r (hm : MT nl nr E mL mR) (hnl : nl ≤ 12) (hnr : nr ≤ 12) (hE : EB nl nr E) (hx : LMx nl nr E (sz nl mL)) {r : Nat} (h : LHr E mL mR nl r = true) : RHr E mL mR nr r = false := by
  have h0 := h
  rw [LHr_nbr hm hnl] at h
  obtain ⟨l, hl, q⟩ := ex_iff.mp h
  rw [Bool.and_eq_true] at q
  obtain ⟨l', a, b⟩ := LHl_CL hm hnl hnr hE hx l r q.1 q.2
  rw [RHr_of hm hnl hnr a]
  exact LR_no hm hnl hnr hE hx b
theorem prt_turn {f h : Nat → Bool} {i : Nat} (q : f i = true → h i = false) : prt f h i + prt h f i = 2 := by
  unfold prt
  cases a : f i with
  | true => rw [q a]; rfl
  | false => cases h i <;> rfl
/-- a left node here is a right node there -/
theorem pL_turn (hm : MT nl nr E mL mR) (hb : MT nl nr E bL bR) (hnl : nl ≤ 12) (hnr : nr ≤ 12) (hE : EB nl nr E) (hx : LMx nl nr E (sz nl mL)) (he : sz nl bL = sz nl mL) (i : Nat) : pL E mL mR nl nr i + pR (tr E) bR bL nr nl i = 2 := by
  have e : pR (tr E) bR bL nr nl i = prt (RHl E bL bR nr) (LHl E bL bR nl) i := rfl
  rw [e, LHl_same hm hb hnl hnr hE hx he, RHl_same hm hb hnl hnr hE hx he]
  exact prt_turn (fun h => LR_no hm hnl hnr hE hx h)
theorem pR_turn (hm : MT nl nr E mL mR) (hb : MT nl nr E bL bR) (hnl : nl ≤ 12) (hnr : nr ≤ 12) (hE : EB nl nr E) (hx : LMx nl nr E (sz nl mL)) (he : sz nl bL = sz nl mL) (j : Nat) : pR E mL mR nl nr j + pL (tr E) bR bL nr nl j = 2 := by
  have e : pL (tr E) bR bL nr nl j = prt (RHr E bL bR nr) (LHr E bL bR nl) j := rfl
  rw [e, LHr_same hm hb hnl hnr hE hx he, RHr_same hm hb hnl hnr hE hx he]
  exact prt_turn (fun h => LR_r hm hnl hnr hE hx h)
theorem pR_free (hm : MT nl nr E mL mR) (hnl : nl ≤ 12) (hnr : nr ≤ 12) (hE : EB nl nr E) (hx : LMx nl nr E (sz nl mL)) {j : Nat} (hj : j < nr) (h : mR j = none) : pR E mL mR nl nr j = 2 := by
  have a : RHr E mL mR nr j = true := LHl_free (E := tr E) (mL := mR) (mR := mL) hnr hj h
  have b : LHr E mL mR nl j = false := by
    cases q : LHr E mL mR nl j with
    | false => rfl
    | true => rw [LR_r hm hnl hnr hE hx q] at a; cases a
  unfold pR prt
  rw [a, b]
  rfl
/-- the left cover has as many nodes as the matching has edges -/
theorem cover_size (hm : MT nl nr E mL mR) (hnl : nl ≤ 12) (hnr : nr ≤ 12) (hE : EB nl nr E) (hx : LMx nl nr E (sz nl mL)) : cnt nl (fun i => !LHl E mL mR nl i) + cnt nr (LHr E mL mR nl) = sz nl mL := by
  have a : cnt nr (LHr E mL mR nl) = cnt nl (fun i => (mL i).isSome && LHl E mL mR nl i) := by
    refine Nat.le_antisymm (cnt_inj nr nl _ _ (fun r => (mR r).getD 0) (fun r hr h => ?_) (fun r r2 hr hr2 h h2 e => ?_)) (cnt_inj nl nr _ _ (fun l => (mL l).getD 0) (fun l hl h => ?_) (fun l l2 hl hl2 h h2 e => ?_))
    · rw [LHr_nbr hm hnl] at h
      obtain ⟨l, hl, q⟩ := ex_iff.mp h
      rw [Bool.and_eq_true] at q
      obtain ⟨l', a, b⟩ := LHl_CL hm hnl hnr hE hx l r q.1 q.2
      have k := hm.r a
      show (mR r).getD 0 < nl ∧ ((mL ((mR r).getD 0)).isSome && LHl E mL mR nl ((mR r).getD 0)) = true
      rw [a]
      show l' < nl ∧ ((mL l').isSome && LHl E mL mR nl l') = true
      rw [k.2.2.2]
      exact ⟨k.1, b⟩
    · have g : ∀ r, LHr E mL mR nl r = true → ∃ l', mR r = some l' := fun r h => by
        rw [LHr_nbr hm hnl] at h
        obtain ⟨l, hl, q⟩ := ex_iff.mp h
        rw [Bool.and_eq_true] at q
        obtain ⟨l', a, b⟩ := LHl_CL hm hnl hnr hE hx l r q.1 q.2
        exact ⟨l', a⟩
      obtain ⟨l1, e1⟩ := g r h
      obtain ⟨l2, e2⟩ := g r2 h2
      have e : (mR r).getD 0 = (mR r2).getD 0 := e
      rw [e1, e2] at e
      have e : l1 = l2 := e
      subst e
      have k1 := (hm.r e1).2.2.2
      have k2 := (hm.r e2).2.2.2
      rw [k1] at k2
      exact Option.some.inj k2
    · have h : ((mL l).isSome && LHl E mL mR nl l) = true := h
      rw [Bool.and_eq_true] at h
      obtain ⟨r, hr⟩ := Option.isSome_iff_exists.mp h.1
      have k := hm.1 l r hr
      show (mL l).getD 0 < nr ∧ LHr E mL mR nl ((mL l).getD 0) = true
      rw [hr]
      show r < nr ∧ LHr E mL mR nl r = true
      exact ⟨k.2.1, by rw [LHr_of hm hnl hnr k.2.2.2]; exact h.2⟩
    · have h : ((mL l).isSome && LHl E mL mR nl l) = true := h
      have h2 : ((mL l2).isSome && LHl E mL mR nl l2) = true := h2
      rw [Bool.and_eq_true] at h h2
      obtain ⟨r1, e1⟩ := Option.isSome_iff_exists.mp h.1
      obtain ⟨r2, e2⟩ := Option.isSome_iff_exists.mp h2.1
      have e : (mL l).getD 0 = (mL l2).getD 0 := e
      rw [e1, e2] at e
      have e : r1 = r2 := e
      subst e
      have k1 := (hm.1 _ _ e1).2.2.2
      have k2 := (hm.1 _ _ e2).2.2.2
      rw [k1] at k2
      exact Option.some.inj k2
  have b : cnt nl (fun i => !LHl E mL mR nl i) = cnt nl (fun i => (mL i).isSome && !LHl E mL mR nl i) := cnt_congr (fun i hi => by
    cases q : mL i with
    | none => rw [LHl_free hnl hi q]; rfl
    | some v => rfl)
  have c := cnt_split nl (fun i => (mL i).isSome) (LHl E mL mR nl)
  rw [a, b]
  show _ = cnt nl (fun i => (mL i).isSome)
  omega
theorem covered (hm : MT nl nr E mL mR) (hnl : nl ≤ 12) (hE : EB nl nr E) {i j : Nat} (h : E i j = true) (k : LHl E mL mR nl i = true) : LHr E mL mR nl j = true := by
  rw [LHr_nbr hm hnl]
  have := (hE i j h).1
  exact nbr_in (by omega) k h
end SAME
