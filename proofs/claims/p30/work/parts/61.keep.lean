/-! what every call keeps -/
def TE (t t2 : TQ) : Prop := t.1 = t2.1 ∧ t.2.2 = t2.2.2 ∧ ∀ i, i < t.2.2 → t.2.1 i = t2.2.1 i
theorem lkr_ind {E : Nat → Nat → Bool} {mR : Nat → Option Nat} {x : Nat} : ∀ (n r : Nat) (t t2 : TQ), TE t t2 → (lkr E mR x n r t).1 = (lkr E mR x n r t2).1 ∧ TE (lkr E mR x n r t).2 (lkr E mR x n r t2).2
  | 0, r, t, t2, h => ⟨rfl, h⟩
  | n + 1, r, t, t2, h => by
    obtain ⟨a, b, c⟩ := h
    rw [lkr, lkr, ← a]
    by_cases q : (E x r && (t.1 r).isNone) = true
    · rw [if_pos q, if_pos q]
      cases mR r with
      | none => exact ⟨rfl, by rw [a], b, c⟩
      | some y =>
        refine lkr_ind n (r + 1) _ _ ⟨by rw [a], by show t.2.2 + 1 = t2.2.2 + 1; rw [b], fun i hi => ?_⟩
        show va_up t.2.1 t.2.2 y i = va_up t2.2.1 t2.2.2 y i
        rw [← b]
        unfold va_up
        by_cases e : i = t.2.2
        · simp [e]
        · have hi : i < t.2.2 + 1 := hi
          simp only [e, if_false]
          exact c i (by omega)
    · rw [if_neg q, if_neg q]
      exact lkr_ind n (r + 1) t t2 ⟨a, b, c⟩
theorem bfs_ind {E : Nat → Nat → Bool} {mR : Nat → Option Nat} {nr : Nat} : ∀ (n h : Nat) (t t2 : TQ), TE t t2 → (bfs E mR nr n h t).1 = (bfs E mR nr n h t2).1 ∧ TE (bfs E mR nr n h t).2 (bfs E mR nr n h t2).2
  | 0, h, t, t2, k => ⟨rfl, k⟩
  | n + 1, h, t, t2, k => by
    have k2 := k
    obtain ⟨a, b, c⟩ := k
    rw [bfs, bfs, ← b]
    by_cases q : h < t.2.2
    · rw [if_pos q, if_pos q, ← c h q]
      have z := lkr_ind (E := E) (mR := mR) (x := t.2.1 h) nr 0 t t2 k2
      generalize lkr E mR (t.2.1 h) nr 0 t = u at z ⊢
      generalize lkr E mR (t.2.1 h) nr 0 t2 = u2 at z ⊢
      obtain ⟨u1, u2'⟩ := u
      obtain ⟨v1, v2⟩ := u2
      obtain ⟨z1, z2⟩ := z
      have z1 : u1 = v1 := z1
      subst z1
      cases u1 with
      | none => exact bfs_ind n (h + 1) _ _ z2
      | some r => exact ⟨rfl, z2⟩
    · rw [if_neg q, if_neg q]
      exact ⟨rfl, k2⟩
theorem fqs_ind {mL : Nat → Option Nat} {q q2 : Nat → Nat} : ∀ n, (fqs mL q n).1 = (fqs mL q2 n).1 ∧ ∀ i, i < (fqs mL q n).1 → (fqs mL q n).2 i = (fqs mL q2 n).2 i
  | 0 => ⟨rfl, fun i h => absurd h (Nat.not_lt_zero _)⟩
  | n + 1 => by
    obtain ⟨a, b⟩ := fqs_ind (mL := mL) (q := q) (q2 := q2) n
    cases z : (mL n).isNone with
    | true =>
      rw [fqs_yes z, fqs_yes z]
      refine ⟨by show _ + 1 = _ + 1; rw [a], fun i hi => ?_⟩
      have hi : i < (fqs mL q n).1 + 1 := hi
      show va_up (fqs mL q n).2 (fqs mL q n).1 n i = va_up (fqs mL q2 n).2 (fqs mL q2 n).1 n i
      rw [← a]
      unfold va_up
      by_cases e : i = (fqs mL q n).1
      · simp [e]
      · simp only [e, if_false]
        exact b i (by omega)
    | false =>
      rw [fqs_no z, fqs_no z]
      exact ⟨a, b⟩
theorem srch_ind {E : Nat → Nat → Bool} {mL mR : Nat → Option Nat} {nl nr : Nat} (q q2 : Nat → Nat) : (srch E mL mR nl nr q).1 = (srch E mL mR nl nr q2).1 ∧ (srch E mL mR nl nr q).2.1 = (srch E mL mR nl nr q2).2.1 := by
  have k := fqs_ind (mL := mL) (q := q) (q2 := q2) nl
  have z := bfs_ind (E := E) (mR := mR) (nr := nr) 13 0 (fun _ => none, (fqs mL q nl).2, (fqs mL q nl).1) (fun _ => none, (fqs mL q2 nl).2, (fqs mL q2 nl).1) ⟨rfl, k.1, k.2⟩
  exact ⟨z.1, z.2.1⟩
theorem flO_ind {E : Nat → Nat → Bool} {mL mR aL aR : Nat → Option Nat} {nl nr : Nat} (q q2 : Nat → Nat) : flO (srch E mL mR nl nr q) aL aR = flO (srch E mL mR nl nr q2) aL aR := by
  unfold flO
  rw [(srch_ind q q2).1, (srch_ind q q2).2]
theorem dS_ind {E : Nat → Nat → Bool} {mL mR : Nat → Option Nat} {nl nr : Nat} (q q2 : Nat → Nat) : dS (srch E mL mR nl nr q) = dS (srch E mL mR nl nr q2) := by
  unfold dS
  rw [(srch_ind q q2).1]
/-- what holds between two calls -/
def INV (nl nr ne n : Nat) (E : Nat → Nat → Bool) (mL mR : Nat → Option Nat) : Prop := nl ≤ 12 ∧ nr ≤ 12 ∧ EB nl nr E ∧ MT nl nr E mL mR ∧ n = sz nl mL ∧ LMx nl nr E n ∧ ne = cnt 144 (tb E)
theorem MT.mono {nl nr : Nat} {E E2 : Nat → Nat → Bool} {mL mR : Nat → Option Nat} (h : MT nl nr E mL mR) (k : ∀ a b, E a b = true → E2 a b = true) : MT nl nr E2 mL mR :=
  ⟨fun l r q => by obtain ⟨a, b, c, d⟩ := h.1 l r q; exact ⟨a, b, k l r c, d⟩, h.2⟩
theorem sz_cut {nl x y : Nat} {mL : Nat → Option Nat} (hx : x < nl) (h : mL x = some y) : sz nl (va_up mL x none) + 1 = sz nl mL := by
  unfold sz
  rw [← cnt_out (q := fun z => (mL z).isSome) (y := x) (by rw [h]; rfl) nl hx]
  refine congrArg (· + 1) (cnt_congr (fun i _ => ?_))
  unfold va_up
  by_cases e : i = x <;> simp [e]
theorem rm_sub {E : Nat → Nat → Bool} {x y a b : Nat} (h : rmE E x y a b = true) : E a b = true := by
  unfold rmE at h
  rw [Bool.and_eq_true] at h
  exact h.1
theorem rm_ad {E : Nat → Nat → Bool} {x y a b : Nat} (h : rmE (adE E x y) x y a b = true) : E a b = true := by
  unfold rmE adE at h
  simp only [Bool.and_eq_true, Bool.or_eq_true, Bool.not_eq_true', Bool.and_eq_false_iff] at h
  rcases h.1 with q | q
  · exact q
  · rcases h.2 with z | z
    · rw [q.1] at z; cases z
    · rw [q.2] at z; cases z
theorem LMx.add {nl nr n x y : Nat} {E : Nat → Nat → Bool} (h : LMx nl nr E n) : LMx nl nr (adE E x y) (n + 1) := by
  intro aL aR ha
  by_cases q : aL x = some y
  · have k := (ha.cut q).mono (E2 := E) (fun a b z => rm_ad z)
    have := h _ _ k
    have e := sz_cut (nl := nl) (ha.1 x y q).1 q
    omega
  · have := h _ _ ((ha.keep q).mono (fun a b z => rm_ad z))
    omega
theorem LMx.sub {nl nr n : Nat} {E E2 : Nat → Nat → Bool} (h : LMx nl nr E n) (k : ∀ a b, E2 a b = true → E a b = true) : LMx nl nr E2 n := fun aL aR ha => h aL aR (ha.mono k)
theorem EB.add {nl nr x y : Nat} {E : Nat → Nat → Bool} (h : EB nl nr E) (hx : x < nl) (hy : y < nr) : EB nl nr (adE E x y) := by
  intro a b q
  unfold adE at q
  rw [Bool.or_eq_true, Bool.and_eq_true, decide_eq_true_eq, decide_eq_true_eq] at q
  rcases q with q | q
  · exact h a b q
  · rw [q.1, q.2]; exact ⟨hx, hy⟩
theorem EB.sub {nl nr : Nat} {E E2 : Nat → Nat → Bool} (h : EB nl nr E) (k : ∀ a b, E2 a b = true → E a b = true) : EB nl nr E2 := fun a b q => h a b (k a b q)
theorem ne_ad {E : Nat → Nat → Bool} {x y : Nat} (hx : x < 12) (hy : y < 12) (h : E x y = false) : cnt 144 (tb (adE E x y)) = cnt 144 (tb E) + 1 := by
  have e := cnt_set (q := tb E) (l := 12 * x + y) 144 (by omega)
  rw [tb_at E hy, h] at e
  rw [← show _ = cnt 144 (tb E) + 1 from e]
  refine cnt_congr (fun i _ => ?_)
  rw [← tb_ad E hy i]
  unfold va_up
  by_cases q : i = 12 * x + y <;> simp [q]
theorem ne_rm {E : Nat → Nat → Bool} {x y : Nat} (hx : x < 12) (hy : y < 12) (h : E x y = true) : cnt 144 (tb (rmE E x y)) + 1 = cnt 144 (tb E) := by
  rw [← cnt_out (q := tb E) (y := 12 * x + y) (by rw [tb_at E hy]; exact h) 144 (by omega)]
  refine congrArg (· + 1) (cnt_congr (fun i _ => ?_))
  rw [← tb_rm E hy i]
  unfold va_up
  by_cases q : i = 12 * x + y <;> simp [q]
theorem INV.connect {nl nr ne n x y : Nat} {E : Nat → Nat → Bool} {mL mR : Nat → Option Nat} (h : INV nl nr ne n E mL mR) (hx : x < nl) (hy : y < nr) (hE : E x y = false) (q0 : Nat → Nat) :
    INV nl nr (ne + 1) (n + dS (srch (adE E x y) mL mR nl nr q0)) (adE E x y) (flO (srch (adE E x y) mL mR nl nr q0) mL mR).1 (flO (srch (adE E x y) mL mR nl nr q0) mL mR).2 ∧
    decide (sz nl mL < sz nl (flO (srch (adE E x y) mL mR nl nr q0) mL mR).1) = (srch (adE E x y) mL mR nl nr q0).1.isSome := by
  obtain ⟨hnl, hnr, hb, hm, hn, hl, he⟩ := h
  have hne : ne + 1 = cnt 144 (tb (adE E x y)) := by rw [ne_ad (by omega) (by omega) hE, he]
  cases k : (srch (adE E x y) mL mR nl nr q0).1 with
  | none =>
    have e : flO (srch (adE E x y) mL mR nl nr q0) mL mR = (mL, mR) := by unfold flO; rw [k, flp_none]
    have d : dS (srch (adE E x y) mL mR nl nr q0) = 0 := by unfold dS; rw [k]
    rw [e, d]
    refine ⟨⟨hnl, hnr, hb.add hx hy, hm.add, hn, ?_, hne⟩, ?_⟩
    · rw [Nat.add_zero, hn]
      exact srch_none hm.add hnl (hb.add hx hy) k
    · exact decide_eq_false (Nat.lt_irrefl _)
  | some r =>
    have z := srch_some hm.add hnl hnr k
    have d : dS (srch (adE E x y) mL mR nl nr q0) = 1 := by unfold dS; rw [k]
    rw [d]
    exact ⟨⟨hnl, hnr, hb.add hx hy, z.1, by rw [z.2, hn], hl.add, hne⟩, decide_eq_true (by rw [z.2]; exact Nat.lt_succ_self _)⟩
theorem INV.hit {nl nr ne n x y : Nat} {E : Nat → Nat → Bool} {mL mR : Nat → Option Nat} (h : INV nl nr ne n E mL mR) (hE : E x y = true) (hk : mL x = some y) (q0 : Nat → Nat) :
    INV nl nr (ne - 1) (n - 1 + dS (dcS E mL mR nl nr x y q0)) (rmE E x y) (flO (dcS E mL mR nl nr x y q0) (va_up mL x none) (va_up mR y none)).1 (flO (dcS E mL mR nl nr x y q0) (va_up mL x none) (va_up mR y none)).2 ∧
    decide (sz nl (flO (dcS E mL mR nl nr x y q0) (va_up mL x none) (va_up mR y none)).1 < sz nl mL) = !(dcS E mL mR nl nr x y q0).1.isSome := by
  obtain ⟨hnl, hnr, hb, hm, hn, hl, he⟩ := h
  have hxy := hb x y hE
  have hne := ne_rm (E := E) (x := x) (y := y) (by omega) (by omega) hE
  have hc := hm.cut hk
  have hs := sz_cut hxy.1 hk
  unfold dcS
  cases k : (srch (rmE E x y) (va_up mL x none) (va_up mR y none) nl nr q0).1 with
  | none =>
    have e : flO (srch (rmE E x y) (va_up mL x none) (va_up mR y none) nl nr q0) (va_up mL x none) (va_up mR y none) = (va_up mL x none, va_up mR y none) := by unfold flO; rw [k, flp_none]
    have d : dS (srch (rmE E x y) (va_up mL x none) (va_up mR y none) nl nr q0) = 0 := by unfold dS; rw [k]
    rw [e, d]
    have e2 : n - 1 + 0 = sz nl (va_up mL x none) := by omega
    refine ⟨⟨hnl, hnr, hb.sub (fun a b => rm_sub), hc, e2, ?_, by omega⟩, decide_eq_true (by show sz nl (va_up mL x none) < _; omega)⟩
    rw [e2]
    exact srch_none hc hnl (hb.sub (fun a b => rm_sub)) k
  | some r =>
    have z := srch_some hc hnl hnr k
    have d : dS (srch (rmE E x y) (va_up mL x none) (va_up mR y none) nl nr q0) = 1 := by unfold dS; rw [k]
    rw [d]
    have e2 : n - 1 + 1 = n := by omega
    refine ⟨⟨hnl, hnr, hb.sub (fun a b => rm_sub), z.1, by rw [z.2]; omega, ?_, by omega⟩, decide_eq_false (by rw [z.2]; omega)⟩
    rw [e2]
    exact hl.sub (fun a b => rm_sub)
theorem INV.miss {nl nr ne n x y : Nat} {E : Nat → Nat → Bool} {mL mR : Nat → Option Nat} (h : INV nl nr ne n E mL mR) (hE : E x y = true) (hk : ¬ mL x = some y) : INV nl nr (ne - 1) n (rmE E x y) mL mR := by
  obtain ⟨hnl, hnr, hb, hm, hn, hl, he⟩ := h
  have hxy := hb x y hE
  have hne := ne_rm (E := E) (x := x) (y := y) (by omega) (by omega) hE
  exact ⟨hnl, hnr, hb.sub (fun a b => rm_sub), hm.keep hk, hn, hl.sub (fun a b => rm_sub), by omega⟩
theorem INV.ne {nl nr ne n : Nat} {E : Nat → Nat → Bool} {mL mR : Nat → Option Nat} (h : INV nl nr ne n E mL mR) : ∀ i j, E i j = true → 0 < ne := by
  intro i j hE
  obtain ⟨hnl, hnr, hb, hm, hn, hl, he⟩ := h
  have hxy := hb i j hE
  have hne := ne_rm (E := E) (x := i) (y := j) (by omega) (by omega) hE
  omega
theorem INV.np {nl nr ne n : Nat} {E : Nat → Nat → Bool} {mL mR : Nat → Option Nat} (h : INV nl nr ne n E mL mR) : ∀ i j, mL i = some j → 0 < n := by
  intro i j hk
  obtain ⟨hnl, hnr, hb, hm, hn, hl, he⟩ := h
  have := sz_cut (hm.1 i j hk).1 hk
  omega
theorem INV.left {nl nr ne n : Nat} {E : Nat → Nat → Bool} {mL mR : Nat → Option Nat} (h : INV nl nr ne n E mL mR) (hlt : nl < 12) : INV (nl + 1) nr ne n E mL mR := by
  obtain ⟨hnl, hnr, hb, hm, hn, hl, he⟩ := h
  have none_of : ∀ {aL aR : Nat → Option Nat}, MT nl nr E aL aR → aL nl = none := fun {aL aR} ha => by
    cases k : aL nl with
    | none => rfl
    | some v => have := (ha.1 nl v k).1; omega
  have szs : ∀ {aL : Nat → Option Nat}, aL nl = none → sz (nl + 1) aL = sz nl aL := fun {aL} ha => cnt_no (p := fun z => (aL z).isSome) (by rw [ha]; rfl)
  refine ⟨by omega, hnr, fun a b q => ⟨by have := (hb a b q).1; omega, (hb a b q).2⟩, ⟨fun l r q => ⟨by have := (hm.1 l r q).1; omega, (hm.1 l r q).2⟩, hm.2⟩, by rw [szs (none_of hm)]; exact hn, fun aL aR ha => ?_, he⟩
  have ha2 : MT nl nr E aL aR := ⟨fun l r q => ⟨(hb l r (ha.1 l r q).2.2.1).1, (ha.1 l r q).2⟩, ha.2⟩
  rw [szs (none_of ha2)]
  exact hl aL aR ha2
theorem INV.right {nl nr ne n : Nat} {E : Nat → Nat → Bool} {mL mR : Nat → Option Nat} (h : INV nl nr ne n E mL mR) (hlt : nr < 12) : INV nl (nr + 1) ne n E mL mR := by
  obtain ⟨hnl, hnr, hb, hm, hn, hl, he⟩ := h
  refine ⟨hnl, by omega, fun a b q => ⟨(hb a b q).1, by have := (hb a b q).2; omega⟩, ⟨fun l r q => ⟨(hm.1 l r q).1, by have := (hm.1 l r q).2.1; omega, (hm.1 l r q).2.2⟩, hm.2⟩, hn, fun aL aR ha => ?_, he⟩
  exact hl aL aR ⟨fun l r q => ⟨(ha.1 l r q).1, (hb l r (ha.1 l r q).2.2.1).2, (ha.1 l r q).2.2⟩, ha.2⟩
theorem cnt_zero : ∀ n, cnt n (fun _ => false) = 0
  | 0 => rfl
  | n + 1 => by rw [cnt, cnt_zero n]; rfl
theorem INV.start : INV 0 0 0 0 (fun _ _ => false) (fun _ => none) (fun _ => none) :=
  ⟨by omega, by omega, fun a b h => (by cases h), ⟨fun l r h => (by cases h), fun r l h => (by cases h)⟩, rfl, fun aL aR ha => Nat.le_refl 0, (cnt_zero 144).symm⟩
