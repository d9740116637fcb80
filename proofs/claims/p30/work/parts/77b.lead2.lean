/-! leading is the same for all largest matchings, and runs the other way in the mirror -/
theorem wk_cl {R : Nat → Nat → Bool} {S : Nat → Prop} (h : ∀ w z, S w → R w z = true → S z) : ∀ n a b, S a → wk R n a b = true → S b
  | 0, a, b, s, k => h a b s k
  | n + 1, a, b, s, k => by
    rw [wk_s, Bool.or_eq_true, Bool.and_eq_true] at k
    rcases k with k | k
    · exact wk_cl h n a b s k
    · exact wk_cl h n n b (wk_cl h n a n s k.1) k.2
theorem wk_fst {R : Nat → Nat → Bool} {P : Nat → Prop} (h : ∀ a z, R a z = true → P a) : ∀ n a z, wk R n a z = true → P a
  | 0, a, z, k => h a z k
  | n + 1, a, z, k => by
    rw [wk_s, Bool.or_eq_true, Bool.and_eq_true] at k
    rcases k with k | k
    · exact wk_fst h n a z k
    · exact wk_fst h n a n k.1
theorem wk_snd {R : Nat → Nat → Bool} {P : Nat → Prop} (h : ∀ a z, R a z = true → P z) : ∀ n a z, wk R n a z = true → P z
  | 0, a, z, k => h a z k
  | n + 1, a, z, k => by
    rw [wk_s, Bool.or_eq_true, Bool.and_eq_true] at k
    rcases k with k | k
    · exact wk_snd h n a z k
    · exact wk_snd h n n z k.2
theorem lw_none_all {p : Nat → Bool} : ∀ {n : Nat}, lw n p = none → ∀ j, j < n → p j = false
  | 0, _, j, hj => absurd hj (Nat.not_lt_zero _)
  | n + 1, h, j, hj => by
    rw [lw] at h
    cases e : lw n p with
    | some k => rw [e] at h; cases h
    | none =>
      rw [e] at h
      by_cases q : j = n
      · subst q
        cases z : p j with
        | false => rfl
        | true => rw [z] at h; cases h
      · exact lw_none_all e j (by omega)
section LEAD2
variable {nl nr : Nat} {E : Nat → Nat → Bool} {mL mR bL bR : Nat → Option Nat}
theorem SQ_lt {z : Nat} (h : SQ nl nr E mL mR z) : z < nl := by
  unfold SQ sqr at h
  rw [Bool.and_eq_true, decide_eq_true_eq] at h
  exact h.1
theorem SQ_L {z : Nat} (h : SQ nl nr E mL mR z) : LHl E mL mR nl z = false := by
  unfold SQ sqr at h
  rw [Bool.and_eq_true, Bool.not_eq_true', Bool.or_eq_false_iff] at h
  exact h.2.1
theorem SQ_R {z : Nat} (h : SQ nl nr E mL mR z) : RHl E mL mR nr z = false := by
  unfold SQ sqr at h
  rw [Bool.and_eq_true, Bool.not_eq_true', Bool.or_eq_false_iff] at h
  exact h.2.2
theorem SQ_1 {z : Nat} (hz : z < nl) : pL E mL mR nl nr z = 1 ↔ SQ nl nr E mL mR z := by
  rw [pL_1]
  constructor
  · rintro ⟨a, b⟩
    exact SQ_of hz a b
  · intro h
    rw [SQ_L h, SQ_R h]
    exact ⟨Bool.noConfusion, Bool.noConfusion⟩
theorem SQ_some (hnl : nl ≤ 12) {z : Nat} (h : SQ nl nr E mL mR z) : ∃ r, mL z = some r := by
  cases q : mL z with
  | some r => exact ⟨r, rfl⟩
  | none =>
    have a := LHl_free (E := E) (mR := mR) hnl (SQ_lt h) q
    rw [SQ_L h] at a
    cases a
theorem RC_fst {a b : Nat} (h : RC E mL mR nl nr a b = true) : SQ nl nr E mL mR a := wk_fst (P := fun a => SQ nl nr E mL mR a) (fun a z k => by
  unfold rd0 at k
  rw [Bool.and_eq_true] at k
  exact k.1) nl a b h
theorem RC_snd {a b : Nat} (h : RC E mL mR nl nr a b = true) : SQ nl nr E mL mR b := wk_snd (P := fun a => SQ nl nr E mL mR a) (fun a z k => by
  unfold rd0 at k
  rw [Bool.and_eq_true, Bool.and_eq_true] at k
  exact k.2.2) nl a b h
theorem RC_rfl {a : Nat} (h : SQ nl nr E mL mR a) : RC E mL mR nl nr a a = true := wk_le (by
  unfold rd0
  rw [h]
  simp) nl
theorem RC_trans {a b c : Nat} (h : RC E mL mR nl nr a c = true) (k : RC E mL mR nl nr c b = true) : RC E mL mR nl nr a b = true := wk_tr nl a b c (SQ_lt (RC_snd h)) h k
theorem RC_step {a b r : Nat} (ha : SQ nl nr E mL mR a) (hb : SQ nl nr E mL mR b) (hr : r < 12) (hE : E a r = true) (hk : mR r = some b) : RC E mL mR nl nr a b = true := wk_le (by
  unfold rd0
  rw [ha, hb, ptn_in hr hE hk]
  rfl) nl
theorem RC_sub (hm : MT nl nr E mL mR) (hb : MT nl nr E bL bR) (hnl : nl ≤ 12) (hnr : nr ≤ 12) (hE : EB nl nr E) (hx : LMx nl nr E (sz nl mL)) (he : sz nl bL = sz nl mL) {a b : Nat} (h : RC E mL mR nl nr a b = true) : RC E bL bR nl nr a b = true := by
  have hxb : LMx nl nr E (sz nl bL) := by rw [he]; exact hx
  have hL := LHl_same hm hb hnl hnr hE hx he
  have hR := RHl_same hm hb hnl hnr hE hx he
  have sq : ∀ z, SQ nl nr E mL mR z ↔ SQ nl nr E bL bR z := fun z => by
    unfold SQ
    rw [hL, hR]
  have hc : CB E bR (fun w => RC E bL bR nl nr a w || LHl E bL bR nl w) := fun l r s e => by
    have s : (RC E bL bR nl nr a l || LHl E bL bR nl l) = true := s
    have k := hE l r e
    rw [Bool.or_eq_true] at s
    rcases s with s | s
    · have q := RC_snd s
      cases z : bR r with
      | none =>
        have w := RHl_free hb hnr k.2 e z
        rw [SQ_R q] at w
        cases w
      | some l' =>
        refine ⟨l', rfl, ?_⟩
        show (RC E bL bR nl nr a l' || LHl E bL bR nl l') = true
        cases q2 : LHl E bL bR nl l' with
        | true => exact Bool.or_true _
        | false =>
          have q3 : ¬ RHl E bL bR nr l' = true := fun h9 => by
            have w := RHl_bwd hb hnl hnr h9 ⟨r, e, z⟩
            rw [SQ_R q] at w
            cases w
          have q4 : SQ nl nr E bL bR l' := SQ_of (hb.r z).1 (by rw [q2]; exact Bool.noConfusion) q3
          rw [RC_trans s (RC_step q q4 (by omega) e z)]
          rfl
    · obtain ⟨l', c, d⟩ := LHl_CL hb hnl hnr hE hxb l r s e
      exact ⟨l', c, by show (_ || LHl E bL bR nl l') = true; rw [d]; exact Bool.or_true _⟩
  have hc2 := (hc.free hb hm he (fun l hl hn => by
    show (_ || LHl E bL bR nl l) = true
    rw [LHl_free hnl hl hn]
    exact Bool.or_true _)).1
  refine wk_cl (S := fun w => RC E bL bR nl nr a w = true) (fun w z s k => ?_) nl a b (RC_rfl ((sq a).mp (RC_fst h))) h
  unfold rd0 at k
  rw [Bool.and_eq_true, Bool.and_eq_true, Bool.or_eq_true, decide_eq_true_eq] at k
  obtain ⟨-, k2, k3⟩ := k
  rcases k2 with k2 | k2
  · obtain ⟨r, hr, q⟩ := ex_iff.mp k2
    rw [Bool.and_eq_true, beq_iff_eq] at q
    obtain ⟨l', c, d⟩ := hc2 w r (by show (RC E bL bR nl nr a w || _) = true; rw [s]; rfl) q.1
    rw [q.2] at c
    cases c
    have d : (RC E bL bR nl nr a z || LHl E bL bR nl z) = true := d
    have e9 : LHl E bL bR nl z = false := SQ_L ((sq z).mp k3)
    rw [e9, Bool.or_false] at d
    exact d
  · rw [k2]
    exact s
theorem RC_same (hm : MT nl nr E mL mR) (hb : MT nl nr E bL bR) (hnl : nl ≤ 12) (hnr : nr ≤ 12) (hE : EB nl nr E) (hx : LMx nl nr E (sz nl mL)) (he : sz nl bL = sz nl mL) : RC E bL bR nl nr = RC E mL mR nl nr := by
  funext a b
  rw [Bool.eq_iff_iff]
  exact ⟨fun h => RC_sub hb hm hnl hnr hE (by rw [he]; exact hx) he.symm h, fun h => RC_sub hm hb hnl hnr hE hx he h⟩
/-- a square node's partner is square -/
theorem SQ_turn (hm : MT nl nr E mL mR) (hnl : nl ≤ 12) (hnr : nr ≤ 12) {x l : Nat} (h : SQ nr nl (tr E) mR mL x) (k : mR x = some l) : SQ nl nr E mL mR l := by
  have a : RHr E mL mR nr x = false := SQ_L h
  have b : LHr E mL mR nl x = false := SQ_R h
  rw [RHr_of hm hnl hnr k] at a
  rw [LHr_of hm hnl hnr k] at b
  exact SQ_of (hm.r k).1 (by rw [b]; exact Bool.noConfusion) (by rw [a]; exact Bool.noConfusion)
theorem RC_turn (hm : MT nl nr E mL mR) (hnl : nl ≤ 12) (hnr : nr ≤ 12) {x y a b : Nat} (h : RC (tr E) mR mL nr nl x y = true) (hx : mR x = some a) (hy : mR y = some b) : RC E mL mR nl nr b a = true := by
  refine wk_cl (R := rd0 (tr E) mL nr (LHl (tr E) mR mL nr) (RHl (tr E) mR mL nl)) (S := fun w => ∀ c, mR w = some c → RC E mL mR nl nr c a = true) (fun w z s k c hc => ?_) nr x y (fun c hc => ?_) h b hy
  · unfold rd0 at k
    rw [Bool.and_eq_true, Bool.and_eq_true, Bool.or_eq_true, decide_eq_true_eq] at k
    obtain ⟨k1, k2, k3⟩ := k
    have k1 : SQ nr nl (tr E) mR mL w := k1
    have k3 : SQ nr nl (tr E) mR mL z := k3
    rcases k2 with k2 | k2
    · obtain ⟨l, hl, q⟩ := ex_iff.mp k2
      rw [Bool.and_eq_true, beq_iff_eq] at q
      have q1 : E l w = true := q.1
      have k4 := (hm.1 l z q.2).2.2.2
      rw [hc] at k4
      cases k4
      obtain ⟨c0, hc0⟩ := SQ_some (E := tr E) (mL := mR) (mR := mL) hnr k1
      have k5 := (hm.r hc0).2.1
      exact RC_trans (RC_step (SQ_turn hm hnl hnr k3 hc) (SQ_turn hm hnl hnr k1 hc0) (by omega) q1 hc0) (s c0 hc0)
    · rw [k2] at hc
      exact s c hc
  · rw [hx] at hc
    cases hc
    exact RC_rfl (SQ_turn hm hnl hnr (RC_fst h) hx)
theorem RC_turned (hm : MT nl nr E mL mR) (hnl : nl ≤ 12) (hnr : nr ≤ 12) {x y a b : Nat} (h : RC E mL mR nl nr b a = true) (hx : mR x = some a) (hy : mR y = some b) : RC (tr E) mR mL nr nl x y = true :=
  RC_turn (E := tr E) hm.tr hnr hnl (x := b) (y := a) h (hm.r hy).2.2.2 (hm.r hx).2.2.2
/-- the fine parts: as many on the right as on the left -/
theorem fns_eq {x y : Nat} (h : RC E mL mR nl nr x y = true) (k : RC E mL mR nl nr y x = true) : fns E mL mR nl nr x = fns E mL mR nl nr y := by
  funext z
  unfold fns
  rw [Bool.eq_iff_iff, Bool.and_eq_true, Bool.and_eq_true]
  exact ⟨fun q => ⟨RC_trans k q.1, RC_trans q.2 h⟩, fun q => ⟨RC_trans h q.1, RC_trans q.2 k⟩⟩
theorem fpt_le (hm : MT nl nr E mL mR) (hnl : nl ≤ 12) (hnr : nr ≤ 12) : fpt E mL mR nl nr nl ≤ fpt (tr E) mR mL nr nl nr := by
  have key : ∀ x, x < nl → (decide (pL E mL mR nl nr x = 1) && (lw 12 (fns E mL mR nl nr x) == some x)) = true → ∃ r y, mL x = some r ∧ mR r = some x ∧ SQ nr nl (tr E) mR mL r ∧ lw 12 (fns (tr E) mR mL nr nl r) = some y ∧ RC (tr E) mR mL nr nl r y = true ∧ RC (tr E) mR mL nr nl y r = true := by
    intro x hx h
    rw [Bool.and_eq_true, decide_eq_true_eq, SQ_1 hx] at h
    obtain ⟨r, hr⟩ := SQ_some hnl h.1
    have k := hm.1 x r hr
    have q : SQ nr nl (tr E) mR mL r := SQ_turn (E := tr E) hm.tr hnr hnl h.1 hr
    have q2 : fns (tr E) mR mL nr nl r r = true := by unfold fns; rw [RC_rfl q]; rfl
    cases w : lw 12 (fns (tr E) mR mL nr nl r) with
    | none =>
      have := lw_none_all w r (by omega)
      rw [q2] at this
      cases this
    | some y =>
      have w2 := (lw_some w).2.1
      unfold fns at w2
      rw [Bool.and_eq_true] at w2
      exact ⟨r, y, hr, k.2.2.2, q, w, w2.1, w2.2⟩
  unfold fpt
  refine cnt_inj nl nr _ _ (fun x => ((mL x).bind (fun r => lw 12 (fns (tr E) mR mL nr nl r))).getD 0) (fun x hx h => ?_) (fun x x2 hx hx2 h h2 e => ?_)
  · obtain ⟨r, y, a1, a2, a3, a4, a5, a6⟩ := key x hx h
    show ((mL x).bind _).getD 0 < nr ∧ _
    have e : ((mL x).bind (fun r => lw 12 (fns (tr E) mR mL nr nl r))).getD 0 = y := by
      rw [a1]
      show (lw 12 (fns (tr E) mR mL nr nl r)).getD 0 = y
      rw [a4]
      rfl
    rw [e]
    have q := RC_snd a5
    refine ⟨SQ_lt q, ?_⟩
    rw [Bool.and_eq_true, decide_eq_true_eq, SQ_1 (SQ_lt q), beq_iff_eq, fns_eq a6 a5]
    exact ⟨q, a4⟩
  · obtain ⟨r, y, a1, a2, a3, a4, a5, a6⟩ := key x hx h
    obtain ⟨r2, y2, b1, b2, b3, b4, b5, b6⟩ := key x2 hx2 h2
    have e1 : ((mL x).bind (fun r => lw 12 (fns (tr E) mR mL nr nl r))).getD 0 = y := by
      rw [a1]
      show (lw 12 (fns (tr E) mR mL nr nl r)).getD 0 = y
      rw [a4]
      rfl
    have e2 : ((mL x2).bind (fun r => lw 12 (fns (tr E) mR mL nr nl r))).getD 0 = y2 := by
      rw [b1]
      show (lw 12 (fns (tr E) mR mL nr nl r2)).getD 0 = y2
      rw [b4]
      rfl
    have e : ((mL x).bind (fun r => lw 12 (fns (tr E) mR mL nr nl r))).getD 0 = ((mL x2).bind (fun r => lw 12 (fns (tr E) mR mL nr nl r))).getD 0 := e
    rw [e1, e2] at e
    subst e
    have c1 := RC_turn hm hnl hnr (RC_trans a5 b6) a2 b2
    have c2 := RC_turn hm hnl hnr (RC_trans b5 a6) b2 a2
    have d := fns_eq c2 c1
    rw [Bool.and_eq_true, beq_iff_eq] at h h2
    have h := h.2
    have h2 := h2.2
    rw [d, h2] at h
    exact (Option.some.inj h).symm
theorem fpt_turn (hm : MT nl nr E mL mR) (hb : MT nl nr E bL bR) (hnl : nl ≤ 12) (hnr : nr ≤ 12) (hE : EB nl nr E) (hx : LMx nl nr E (sz nl mL)) (he : sz nl bL = sz nl mL) : fpt E mL mR nl nr nl = fpt (tr E) bR bL nr nl nr := by
  have e : fpt E mL mR nl nr nl = fpt E bL bR nl nr nl := by
    unfold fpt pL fns
    rw [LHl_same hm hb hnl hnr hE hx he, RHl_same hm hb hnl hnr hE hx he, RC_same hm hb hnl hnr hE hx he]
  rw [e]
  exact Nat.le_antisymm (fpt_le hb hnl hnr) (fpt_le (E := tr E) hb.tr hnr hnl)
/-- an edge in some, in all largest matchings: the same in the mirror -/
theorem mst_turn {G : Nat → Nat → Bool} (hnl : nl ≤ 12) (hnr : nr ≤ 12) (hG : EB nl nr G) : mst (wyr G nr nl) (2 ^ nr) = mst (wyr (tr G) nl nr) (2 ^ nl) := by
  obtain ⟨h1, h2, -⟩ := bS_MT (E := G) (nl := nl) hnr (phC G nl nr)
  have h3 := phC_max hnl hnr hG
  rw [← h2] at h3
  rw [mst_eq hnr h1 h3, ← sz_tr h1 hnr]
  refine (mst_eq hnl h1.tr ?_).symm
  rw [sz_tr h1 hnr]
  exact h3.tr hnl
theorem cw_tr {i j : Nat} : cwE (tr E) (some j) (some i) none = tr (cwE E (some i) (some j) none) := by
  funext a b
  rw [Bool.eq_iff_iff, cw2]
  show _ ↔ cwE E (some i) (some j) none b a = true
  rw [cw2]
  exact ⟨fun h => ⟨h.1, h.2.2, h.2.1⟩, fun h => ⟨h.1, h.2.2, h.2.1⟩⟩
theorem rm_tr {i j : Nat} : rmE (tr E) j i = tr (rmE E i j) := by
  funext a b
  show (E b a && !(decide (a = j) && decide (b = i))) = (E b a && !(decide (b = i) && decide (a = j)))
  rw [Bool.and_comm (decide (a = j))]
theorem ad_tr {i j : Nat} : adE (tr E) j i = tr (adE E i j) := by
  funext a b
  show (E b a || (decide (a = j) && decide (b = i))) = (E b a || (decide (b = i) && decide (a = j)))
  rw [Bool.and_comm (decide (a = j))]
theorem cw_EB (hE : EB nl nr E) {x y d : Option Nat} : EB nl nr (cwE E x y d) := fun a b h => by
  unfold cwE at h
  rw [Bool.and_eq_true] at h
  exact hE a b h.1
theorem iSm_turn (hm : MT nl nr E mL mR) (hb : MT nl nr E bL bR) (hnl : nl ≤ 12) (hnr : nr ≤ 12) (hE : EB nl nr E) (hx : LMx nl nr E (sz nl mL)) (he : sz nl bL = sz nl mL) {i j : Nat} (hij : E i j = true) : iSm (tr E) bR bL nr nl j i = iSm E mL mR nl nr i j := by
  have hx2 : LMx nr nl (tr E) (sz nr bR) := by rw [sz_tr hb hnr, he]; exact hx.tr hnl
  rw [iSm_eq hm hnl hnr hE hx hij, iSm_eq (E := tr E) hb.tr hnr hnl hE.tr hx2 (show tr E j i = true from hij), cw_tr, ← mst_turn hnl hnr (cw_EB hE), sz_tr hb hnr, he]
theorem iAl_turn (hm : MT nl nr E mL mR) (hb : MT nl nr E bL bR) (hnl : nl ≤ 12) (hnr : nr ≤ 12) (hE : EB nl nr E) (hx : LMx nl nr E (sz nl mL)) (he : sz nl bL = sz nl mL) {i j : Nat} (hij : E i j = true) : iAl (tr E) bR bL nr nl j i = iAl E mL mR nl nr i j := by
  have hx2 : LMx nr nl (tr E) (sz nr bR) := by rw [sz_tr hb hnr, he]; exact hx.tr hnl
  have k := hE i j hij
  rw [iAl_eq hm hnl hnr hE hx hij, iAl_eq (E := tr E) hb.tr hnr hnl hE.tr hx2 (show tr E j i = true from hij), cwE_rm hE hnr k.2, cwE_rm hE.tr hnl k.1, rm_tr, ← mst_turn hnl hnr (hE.sub (fun a b => rm_sub)), sz_tr hb hnr, he]
theorem iAl_pair {i j : Nat} (h : iAl E mL mR nl nr i j = true) : mL i = some j := by
  unfold iAl at h
  rw [Bool.and_eq_true, beq_iff_eq] at h
  exact h.1
theorem iSm_pair (hm : MT nl nr E mL mR) (hnl : nl ≤ 12) (hnr : nr ≤ 12) {i j : Nat} (h : mL i = some j) : iSm E mL mR nl nr i j = true := by
  have k := hm.1 i j h
  have e : pL E mL mR nl nr i = pR E mL mR nl nr j := (pR_of hm hnl hnr k.2.2.2).symm
  by_cases q : pL E mL mR nl nr i = 1
  · have s := (SQ_1 k.1).mp q
    exact iSm_yes1 e k.2.2.2 (RC_rfl s) (RC_rfl s)
  · exact iSm_yes0 e q
/-- removing an edge costs one exactly if it is in all largest matchings -/
theorem iAl_cost {ne n ne2 n2 : Nat} {cL cR : Nat → Option Nat} (h : INV nl nr ne n E mL mR) {i j : Nat} (hij : E i j = true) (h2 : INV nl nr ne2 n2 (rmE E i j) cL cR) : iAl E mL mR nl nr i j = decide (n2 < n) := by
  obtain ⟨hnl, hnr, hE, hm, hn, hx, -⟩ := h
  obtain ⟨-, -, hE2, hm2, hn2, hx2, -⟩ := h2
  rw [hn] at hx
  rw [hn2] at hx2
  rw [iAl_eq hm hnl hnr hE hx hij, cwE_rm hE hnr (hE i j hij).2, mst_eq hnr hm2 hx2, ← hn, ← hn2]
end LEAD2
