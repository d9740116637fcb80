/-! a hall and its mirror: what the law compares -/
def TU (s t : St) : Prop := HI s ∧ HI t ∧ sE t = tr (sE s) ∧ sNl t = sNr s ∧ sNr t = sNl s ∧ sNe t = sNe s
section TUS
variable {s t : St}
theorem TU.hs (u : TU s t) : HI s := u.1
theorem TU.ht (u : TU s t) : HI t := u.2.1
theorem TU.e (u : TU s t) : sE t = tr (sE s) := u.2.2.1
theorem TU.nl (u : TU s t) : sNl t = sNr s := u.2.2.2.1
theorem TU.nr (u : TU s t) : sNr t = sNl s := u.2.2.2.2.1
theorem TU.ne (u : TU s t) : sNe t = sNe s := u.2.2.2.2.2
theorem TU.hnl (u : TU s t) : sNl s ≤ 12 := u.hs.1
theorem TU.hnr (u : TU s t) : sNr s ≤ 12 := u.hs.2.1
theorem TU.eb (u : TU s t) : EB (sNl s) (sNr s) (sE s) := u.hs.2.2.1
theorem TU.mt (u : TU s t) : MT (sNl s) (sNr s) (sE s) (sL s) (sR s) := u.hs.2.2.2.1
theorem TU.inv (u : TU s t) : INV (sNr s) (sNl s) (sNe t) (sN t) (tr (sE s)) (sL t) (sR t) := by
  have h : INV (sNl t) (sNr t) (sNe t) (sN t) (sE t) (sL t) (sR t) := u.ht
  rw [u.e, u.nl, u.nr] at h
  exact h
theorem TU.other (u : TU s t) : MT (sNl s) (sNr s) (sE s) (sR t) (sL t) ∧ sN t = sN s ∧ sz (sNl s) (sR t) = sz (sNl s) (sL s) ∧ sN s = sz (sNl s) (sL s) ∧ LMx (sNl s) (sNr s) (sE s) (sz (sNl s) (sL s)) := INV.other u.hs u.inv
theorem TU.n (u : TU s t) : sN t = sN s := u.other.2.1
theorem TU.ways (u : TU s t) : swt (wys (sE t) (sNr t) (sNl t)) (sN t) (2 ^ sNr t) = swt (wys (sE s) (sNr s) (sNl s)) (sN s) (2 ^ sNr s) := by
  rw [u.e, u.nl, u.nr, u.n]
  exact (ways_turn u.hnl u.hnr).symm
theorem TU.cvr (u : TU s t) : cvr (sE t) (sNl t) (sN t) (sNl t + 1) 0 0 (fun _ => false) = cvr (sE s) (sNl s) (sN s) (sNl s + 1) 0 0 (fun _ => false) := by
  rw [u.e, u.nl, u.n, u.other.2.2.2.1]
  exact (cvr_turn u.mt u.eb u.hnl u.hnr).symm
theorem TU.fpt (u : TU s t) : fpt (sE t) (sL t) (sR t) (sNl t) (sNr t) (sNl t) = fpt (sE s) (sL s) (sR s) (sNl s) (sNr s) (sNl s) := by
  rw [u.e, u.nl, u.nr]
  exact (fpt_turn u.mt u.other.1 u.hnl u.hnr u.eb u.other.2.2.2.2 u.other.2.2.1).symm
theorem TU.ptl (u : TU s t) (k : Nat) : nI 2 - nI (pR (sE t) (sL t) (sR t) (sNl t) (sNr t) k) = nI (pL (sE s) (sL s) (sR s) (sNl s) (sNr s) k) := by
  have h := pL_turn u.mt u.other.1 u.hnl u.hnr u.eb u.other.2.2.2.2 u.other.2.2.1 k
  rw [u.e, u.nl, u.nr]
  rw [pk_sub (by omega)]
  exact congrArg nI (by omega)
theorem TU.ptr (u : TU s t) (k : Nat) : nI 2 - nI (pL (sE t) (sL t) (sR t) (sNl t) (sNr t) k) = nI (pR (sE s) (sL s) (sR s) (sNl s) (sNr s) k) := by
  have h := pR_turn u.mt u.other.1 u.hnl u.hnr u.eb u.other.2.2.2.2 u.other.2.2.1 k
  rw [u.e, u.nl, u.nr]
  rw [pk_sub (by omega)]
  exact congrArg nI (by omega)
theorem TU.pL0 (u : TU s t) {k : Nat} (hk : k < sNl s) (h : sL s k = none) : pL (sE s) (sL s) (sR s) (sNl s) (sNr s) k = 0 := prt_0.mpr (LHl_free u.hnl hk h)
theorem TU.pR2 (u : TU s t) {k : Nat} (hk : k < sNr s) (h : sR s k = none) : pR (sE s) (sL s) (sR s) (sNl s) (sNr s) k = 2 := pR_free u.mt u.hnl u.hnr u.eb u.other.2.2.2.2 hk h
theorem TU.cover (u : TU s t) : cnt (sNl s) (fun i => !LHl (sE s) (sL s) (sR s) (sNl s) i) + cnt (sNr s) (LHr (sE s) (sL s) (sR s) (sNl s)) = sN s := (cover_size u.mt u.hnl u.hnr u.eb u.other.2.2.2.2).trans u.other.2.2.2.1.symm
theorem TU.cov (u : TU s t) {i k : Nat} (hE : sE s i k = true) : 0 < b2n (!LHl (sE s) (sL s) (sR s) (sNl s) i) + b2n (LHr (sE s) (sL s) (sR s) (sNl s) k) := by
  cases q : LHl (sE s) (sL s) (sR s) (sNl s) i with
  | false => show 0 < 1 + _; omega
  | true =>
    rw [covered u.mt u.hnl u.eb hE q]
    decide
theorem TU.has (u : TU s t) (i k : Nat) : sE t k i = sE s i k := by rw [u.e]; rfl
theorem TU.some (u : TU s t) (i k : Nat) : (if sE t k i = true then nI (b2n (iSm (sE t) (sL t) (sR t) (sNl t) (sNr t) k i)) else (-9999004)) = (if sE s i k = true then nI (b2n (iSm (sE s) (sL s) (sR s) (sNl s) (sNr s) i k)) else (-9999004)) := by
  by_cases h : sE s i k = true
  · rw [if_pos h, if_pos (by rw [u.has]; exact h), u.e, u.nl, u.nr]
    exact congrArg (fun b => nI (b2n b)) (iSm_turn u.mt u.other.1 u.hnl u.hnr u.eb u.other.2.2.2.2 u.other.2.2.1 h)
  · rw [if_neg h, if_neg (by rw [u.has]; exact h)]
theorem TU.all (u : TU s t) (i k : Nat) : (if sE t k i = true then nI (b2n (iAl (sE t) (sL t) (sR t) (sNl t) (sNr t) k i)) else (-9999004)) = (if sE s i k = true then nI (b2n (iAl (sE s) (sL s) (sR s) (sNl s) (sNr s) i k)) else (-9999004)) := by
  by_cases h : sE s i k = true
  · rw [if_pos h, if_pos (by rw [u.has]; exact h), u.e, u.nl, u.nr]
    exact congrArg (fun b => nI (b2n b)) (iAl_turn u.mt u.other.1 u.hnl u.hnr u.eb u.other.2.2.2.2 u.other.2.2.1 h)
  · rw [if_neg h, if_neg (by rw [u.has]; exact h)]
theorem ite_1 {c b : Bool} (h : (if c = true then nI (b2n b) else (-9999004)) = nI 1) : c = true ∧ b = true := by
  cases c with
  | false => rw [if_neg (by decide)] at h; exact absurd h (by decide)
  | true => exact ⟨rfl, b2n_1 h⟩
theorem sm_1 (hi : HI s) {i k : Nat} (h : sL s i = some k) : (if sE s i k = true then nI (b2n (iSm (sE s) (sL s) (sR s) (sNl s) (sNr s) i k)) else (-9999004)) = nI 1 := by
  rw [if_pos (hi.2.2.2.1.1 i k h).2.2.1, iSm_pair hi.2.2.2.1 hi.1 hi.2.1 h]
  rfl
/-! the steps -/
theorem TU.start : TU ((fun _ _ => false), 0, 0, 0, 0, (fun _ => none), (fun _ => none)) ((fun _ _ => false), 0, 0, 0, 0, (fun _ => none), (fun _ => none)) := ⟨INV.start, INV.start, rfl, rfl, rfl, rfl⟩
theorem TU.al (u : TU s t) (h : sNl s < 12) : TU (alS s) (arS t) := ⟨u.hs.left h, u.ht.right (by rw [u.nr]; exact h), u.e, u.nl, congrArg (· + 1) u.nr, u.ne⟩
theorem TU.ar (u : TU s t) (h : sNr s < 12) : TU (arS s) (alS t) := ⟨u.hs.right h, u.ht.left (by rw [u.nl]; exact h), u.e, congrArg (· + 1) u.nl, u.nr, u.ne⟩
theorem HI.rb (h : HI s) : HI (rbS s) := INV.rebuild h
theorem TU.rb (u : TU s t) : TU (rbS s) (rbS t) := ⟨u.hs.rb, u.ht.rb, u.e, u.nl, u.nr, u.ne⟩
theorem HI.rbn (h : HI s) : sN (rbS s) = sN s := by
  have h2 : HI (rbS s) := h.rb
  have a : sz (sNl s) (sL (rbS s)) ≤ sN s := h.2.2.2.2.2.1 _ _ h2.2.2.2.1
  have b : sz (sNl s) (sL s) ≤ sN (rbS s) := h2.2.2.2.2.2.1 _ _ h.2.2.2.1
  have c : sN s = sz (sNl s) (sL s) := h.2.2.2.2.1
  have d : sN (rbS s) = sz (sNl s) (sL (rbS s)) := h2.2.2.2.2.1
  omega
theorem dS_b (S : Option Nat × TQ) : dS S = b2n S.1.isSome := by
  unfold dS
  cases S.1 <;> rfl
abbrev more (s : St) (i k : Nat) (q : Nat → Nat) : Bool := (srch (adE (sE s) i k) (sL s) (sR s) (sNl s) (sNr s) q).1.isSome
abbrev lost (s : St) (i k : Nat) (q : Nat → Nat) : Bool := if sL s i = some k then !(dcS (sE s) (sL s) (sR s) (sNl s) (sNr s) i k q).1.isSome else false
theorem con_n (i k : Nat) (q : Nat → Nat) : sN (conS s i k q) = sN s + b2n (more s i k q) := congrArg (sN s + ·) (dS_b _)
theorem TU.con (u : TU s t) {i k : Nat} (hi : i < sNl s) (hk : k < sNr s) (hE : sE s i k = false) (q q2 : Nat → Nat) : TU (conS s i k q) (conS t k i q2) :=
  ⟨(INV.connect u.hs hi hk hE q).1, (INV.connect u.ht (by rw [u.nl]; exact hk) (by rw [u.nr]; exact hi) (by rw [u.has]; exact hE) q2).1, by
    show adE (sE t) k i = tr (adE (sE s) i k)
    rw [u.e]
    exact ad_tr, u.nl, u.nr, congrArg (· + 1) u.ne⟩
theorem TU.more (u : TU s t) {i k : Nat} (hi : i < sNl s) (hk : k < sNr s) (hE : sE s i k = false) (q q2 : Nat → Nat) : nI (b2n (more t k i q2)) = nI (b2n (more s i k q)) := by
  have a := (u.con hi hk hE q q2).n
  rw [con_n, con_n, u.n] at a
  exact congrArg nI (by omega)
theorem flp_keep (lf : Nat → Option Nat) : ∀ (n : Nat) (mL mR : Nat → Option Nat) (o : Option Nat) (z : Nat), (mL z).isSome = true → ((flp lf n mL mR o).1 z).isSome = true
  | 0, mL, mR, o, z, h => h
  | n + 1, mL, mR, none, z, h => h
  | n + 1, mL, mR, some r, z, h => by
    rw [flp]
    cases lf r with
    | none => exact h
    | some l =>
      refine flp_keep lf n _ _ _ z ?_
      unfold va_up
      by_cases e : z = l
      · rw [if_pos e]; rfl
      · rw [if_neg e]; exact h
theorem con_keep {i k z v : Nat} {q : Nat → Nat} (h : sL s z = some v) : ∃ w, sL (conS s i k q) z = some w := by
  have a : ((flO (srch (adE (sE s) i k) (sL s) (sR s) (sNl s) (sNr s) q) (sL s) (sR s)).1 z).isSome = true := flp_keep _ 12 _ _ _ z (by rw [h]; rfl)
  exact Option.isSome_iff_exists.mp a
theorem con_same {i k : Nat} {q : Nat → Nat} (h : more s i k q = false) : sL (conS s i k q) = sL s := by
  have e : (srch (adE (sE s) i k) (sL s) (sR s) (sNl s) (sNr s) q).1 = none := by
    cases z : (srch (adE (sE s) i k) (sL s) (sR s) (sNl s) (sNr s) q).1 with
    | none => rfl
    | some r =>
      have h : (srch (adE (sE s) i k) (sL s) (sR s) (sNl s) (sNr s) q).1.isSome = false := h
      rw [z] at h
      cases h
  show (flO (srch (adE (sE s) i k) (sL s) (sR s) (sNl s) (sNr s) q) (sL s) (sR s)).1 = sL s
  unfold flO
  rw [e, flp_none]
theorem dis_hit {i k : Nat} {q : Nat → Nat} (hk : sL s i = some k) : disS s i k q = (rmE (sE s) i k, sNl s, sNr s, sNe s - 1, sN s - 1 + dS (dcS (sE s) (sL s) (sR s) (sNl s) (sNr s) i k q), (flO (dcS (sE s) (sL s) (sR s) (sNl s) (sNr s) i k q) (va_up (sL s) i none) (va_up (sR s) k none)).1, (flO (dcS (sE s) (sL s) (sR s) (sNl s) (sNr s) i k q) (va_up (sL s) i none) (va_up (sR s) k none)).2) := by
  unfold disS
  simp only [if_pos hk]
theorem dis_miss {i k : Nat} {q : Nat → Nat} (hk : ¬ sL s i = some k) : disS s i k q = (rmE (sE s) i k, sNl s, sNr s, sNe s - 1, sN s, sL s, sR s) := by
  unfold disS
  simp only [if_neg hk]
theorem HI.dis (h : HI s) {i k : Nat} (hE : sE s i k = true) (q : Nat → Nat) : HI (disS s i k q) := by
  by_cases hk : sL s i = some k
  · rw [dis_hit hk]
    exact (INV.hit h hE hk q).1
  · rw [dis_miss hk]
    exact INV.miss h hE hk
theorem HI.disn (h : HI s) (i k : Nat) (q : Nat → Nat) : sN (disS s i k q) + b2n (lost s i k q) = sN s := by
  by_cases hk : sL s i = some k
  · rw [dis_hit hk]
    have a := INV.np h i k hk
    have e : lost s i k q = !(dcS (sE s) (sL s) (sR s) (sNl s) (sNr s) i k q).1.isSome := if_pos hk
    rw [e]
    show sN s - 1 + dS _ + _ = sN s
    rw [dS_b]
    cases (dcS (sE s) (sL s) (sR s) (sNl s) (sNr s) i k q).1.isSome
    · show sN s - 1 + 0 + 1 = sN s; omega
    · show sN s - 1 + 1 + 0 = sN s; omega
  · rw [dis_miss hk]
    have e : lost s i k q = false := if_neg hk
    rw [e]
    rfl
theorem TU.dis (u : TU s t) {i k : Nat} (hE : sE s i k = true) (q q2 : Nat → Nat) : TU (disS s i k q) (disS t k i q2) :=
  ⟨u.hs.dis hE q, u.ht.dis (by rw [u.has]; exact hE) q2, by
    show rmE (sE t) k i = tr (rmE (sE s) i k)
    rw [u.e]
    exact rm_tr, u.nl, u.nr, congrArg (· - 1) u.ne⟩
theorem TU.lost (u : TU s t) {i k : Nat} (hE : sE s i k = true) (q q2 : Nat → Nat) : nI (b2n (lost t k i q2)) = nI (b2n (lost s i k q)) := by
  have a := (u.dis hE q q2).n
  have b := u.ht.disn k i q2
  have c := u.hs.disn i k q
  have d := u.n
  exact congrArg nI (by omega)
theorem HI.need (h : HI s) {i k : Nat} (hE : sE s i k = true) (q : Nat → Nat) : lost s i k q = iAl (sE s) (sL s) (sR s) (sNl s) (sNr s) i k := by
  have h2 : INV (sNl s) (sNr s) (sNe s - 1) (sN (disS s i k q)) (rmE (sE s) i k) (sL (disS s i k q)) (sR (disS s i k q)) := h.dis hE q
  rw [iAl_cost h hE h2]
  have c := h.disn i k q
  cases z : lost s i k q with
  | true =>
    rw [z] at c
    have c : sN (disS s i k q) + 1 = sN s := c
    exact (decide_eq_true (by omega)).symm
  | false =>
    rw [z] at c
    have c : sN (disS s i k q) + 0 = sN s := c
    exact (decide_eq_false (by omega)).symm
theorem HI.gone (h : HI s) {i k : Nat} (hE : sE s i k = true) (q : Nat → Nat) : ¬ sL (disS s i k q) i = some k := fun z => by
  have a := ((h.dis hE q).2.2.2.1.1 i k z).2.2.1
  have a : (sE s i k && !(decide (i = i) && decide (k = k))) = true := a
  rw [decide_eq_true rfl, decide_eq_true rfl] at a
  rw [Bool.and_eq_true] at a
  cases a.2
theorem dis_same {i k : Nat} {q : Nat → Nat} (hk : ¬ sL s i = some k) : sL (disS s i k q) = sL s := by rw [dis_miss hk]
/-! the notes -/
theorem HI.b12 (h : HI s) : ∀ k v, sL s k = some v → v < 12 := (h.2.2.2.1.b12 h.1 h.2.1).1
theorem HI.r12 (h : HI s) : ∀ k v, sR s k = some v → v < 12 := (h.2.2.2.1.b12 h.1 h.2.1).2
theorem nf_in {F : Nat → Int32} {mL : Nat → Option Nat} {n z : Nat} (h : z < n) : nf F mL n z = pv (mL z) := if_pos h
theorem nf_out {F : Nat → Int32} {mL : Nat → Option Nat} {n z : Nat} (h : n ≤ z) : nf F mL n z = F z := if_neg (by omega)
theorem chg_0 {F : Nat → Int32} {mL : Nat → Option Nat} {n : Nat} (h : ∀ z, z < n → F z = pv (mL z)) : chg F mL n = 0 := by
  unfold chg
  exact (cnt_congr (fun i hi => by rw [decide_eq_true (h i hi)]; rfl)).trans (cnt_zero n)
theorem chg_dif {F : Nat → Int32} {aL mL : Nat → Option Nat} {n : Nat} (h : ∀ z, z < n → F z = pv (aL z)) (ha : ∀ k v, aL k = some v → v < 12) (hm : ∀ k v, mL k = some v → v < 12) : chg F mL n = dif n aL mL := by
  unfold chg dif
  refine cnt_congr (fun i hi => ?_)
  rw [h i hi]
  by_cases e : aL i = mL i
  · rw [e, decide_eq_true rfl]
    simp
  · rw [decide_eq_false (fun q => e (pv_inj (ha i) (hm i) q))]
    have : (aL i == mL i) = false := by simpa using e
    rw [this]
theorem dif_self (n : Nat) (mL : Nat → Option Nat) : dif n mL mL = 0 := by
  unfold dif
  exact (cnt_congr (fun i _ => by simp)).trans (cnt_zero n)
theorem chg_al {F : Nat → Int32} (h : HI s) (hF : F (sNl s) = 0) : chg (nf F (sL s) (sNl s)) (sL s) (sNl s + 1) = 1 := by
  have a : chg (nf F (sL s) (sNl s)) (sL s) (sNl s) = 0 := chg_0 (fun z hz => nf_in hz)
  have b : sL s (sNl s) = none := by
    cases q : sL s (sNl s) with
    | none => rfl
    | some v => have := (h.2.2.2.1.1 _ v q).1; omega
  have c : ¬ nf F (sL s) (sNl s) (sNl s) = pv (sL s (sNl s)) := by
    rw [nf_out (Nat.le_refl _), hF, b]
    decide
  unfold chg at a ⊢
  rw [cnt, a, decide_eq_false c]
  rfl
end TUS
