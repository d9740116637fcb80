/-! covers and excess -/
def CERT (nl : Nat) (E : Nat → Nat → Bool) (mL mR : Nat → Option Nat) (Sx : Nat → Bool) : Prop := (∀ l, l < nl → mL l = none → Sx l = true) ∧ (∀ l r, Sx l = true → E l r = true → ∃ l', mR r = some l' ∧ Sx l' = true) ∧ (∀ l, Sx l = true → l < nl)
theorem srch_cert {nl nr : Nat} {E : Nat → Nat → Bool} {mL mR : Nat → Option Nat} (hm : MT nl nr E mL mR) (hnl : nl ≤ 12) (hE : EB nl nr E) {q0 : Nat → Nat} (h : (srch E mL mR nl nr q0).1 = none) : ∃ Sx, CERT nl E mL mR Sx := by
  obtain ⟨h2, hB, hw⟩ := (srch_BI hm hnl q0).1 h
  generalize (srch E mL mR nl nr q0).2 = t at hB hw
  obtain ⟨b1, b2, b3, b4, b5, b6⟩ := hB
  refine ⟨fun l => ex t.2.2 (fun i => decide (t.2.1 i = l)), fun l hl hf => ?_, fun l r hs he => ?_, fun l hs => ?_⟩
  · obtain ⟨i, a, b⟩ := b4 l hl hf
    exact ex_iff.mpr ⟨i, a, decide_eq_true b⟩
  · obtain ⟨i, a, b⟩ := ex_iff.mp hs
    have b := of_decide_eq_true b
    have k := b5 i r a (Or.inl (by omega)) (by rw [b]; exact he) (hE l r he).2
    obtain ⟨v, hv⟩ := some_of k
    obtain ⟨l', c, i', d, f⟩ := b6 r v hv
    exact ⟨l', c, ex_iff.mpr ⟨i', d, decide_eq_true f⟩⟩
  · obtain ⟨i, a, b⟩ := ex_iff.mp hs
    have b := of_decide_eq_true b
    rw [← b]
    exact (b1.1 i a).1
/-- a largest matching has such a set -/
theorem cert_of {nl nr : Nat} {E : Nat → Nat → Bool} {mL mR : Nat → Option Nat} (hm : MT nl nr E mL mR) (hnl : nl ≤ 12) (hnr : nr ≤ 12) (hE : EB nl nr E) (hx : LMx nl nr E (sz nl mL)) : ∃ Sx, CERT nl E mL mR Sx := by
  cases k : (srch E mL mR nl nr (fun _ => 0)).1 with
  | none => exact srch_cert hm hnl hE k
  | some r =>
    have z := srch_some hm hnl hnr k
    have := hx _ _ z.1
    omega
theorem cnt_or : ∀ {n : Nat} {p q : Nat → Bool}, (∀ i, i < n → p i = true → q i = false) → cnt n (fun i => p i || q i) = cnt n p + cnt n q
  | 0, _, _, _ => rfl
  | n + 1, p, q, h => by
    have ih := cnt_or (n := n) (fun i hi => h i (by omega))
    rw [cnt, cnt, cnt, ih]
    cases a : p n with
    | true => rw [h n (by omega) a]; simp; omega
    | false => cases q n <;> simp; omega
theorem cnt_split (n : Nat) (p q : Nat → Bool) : cnt n p = cnt n (fun i => p i && q i) + cnt n (fun i => p i && !q i) := by
  rw [← cnt_or (p := fun i => p i && q i) (q := fun i => p i && !q i) (fun i _ a => by
    have a : (p i && q i) = true := a
    rw [Bool.and_eq_true] at a
    show (p i && !q i) = false
    rw [a.2]; simp)]
  exact cnt_congr (fun i _ => by cases p i <;> cases q i <;> rfl)
theorem cnt_sub {n : Nat} {p q : Nat → Bool} (h : ∀ i, i < n → p i = true → q i = true) : cnt n p ≤ cnt n q :=
  cnt_inj n n p q id (fun z hz pz => ⟨hz, h z hz pz⟩) (fun z w _ _ _ _ e => e)
theorem cnt_not (n : Nat) (p : Nat → Bool) : cnt n p + cnt n (fun i => !p i) = n := by
  have k : ∀ n, cnt n (fun _ => true) = n := by
    intro n
    induction n with
    | zero => rfl
    | succ n ih => rw [cnt, ih]; rfl
  rw [← cnt_or (fun i _ a => by rw [a]; rfl), ← k n]
  rw [k n]
  refine (cnt_congr (fun i _ => ?_)).trans (k n)
  cases p i <;> rfl
theorem cnt_wide {n k : Nat} {p : Nat → Bool} (hk : n ≤ k) (h : ∀ i, n ≤ i → i < k → p i = false) : cnt k p = cnt n p := by
  obtain ⟨d, rfl⟩ := Nat.le.dest hk
  clear hk
  induction d with
  | zero => rfl
  | succ d ih =>
    rw [show n + (d + 1) = n + d + 1 from rfl, cnt, h (n + d) (by omega) (by omega), ih (fun i a b => h i a (by omega))]
    rfl
/-- the right nodes beside a set -/
def nbS (E : Nat → Nat → Bool) (nl nr : Nat) (f : Nat → Bool) : Nat := cnt nr (fun r => ex nl (fun l => f l && E l r))
theorem nbc_S {E : Nat → Nat → Bool} {nl nr x : Nat} : nbc E nl nr x = nbS E nl nr (fun l => x.testBit l) := rfl
theorem nbS_congr {E : Nat → Nat → Bool} {nl nr : Nat} {f g : Nat → Bool} (h : ∀ l, l < nl → f l = g l) : nbS E nl nr f = nbS E nl nr g :=
  cnt_congr (fun r _ => ex_congr (fun l hl => by rw [h l hl]))
theorem lack {nl nr : Nat} {E : Nat → Nat → Bool} {mL mR : Nat → Option Nat} (hm : MT nl nr E mL mR) (f : Nat → Bool) : cnt nl f ≤ nbS E nl nr f + (nl - sz nl mL) := by
  have a := cnt_split nl f (fun l => (mL l).isSome)
  have b : cnt nl (fun l => f l && (mL l).isSome) ≤ nbS E nl nr f := by
    refine cnt_inj nl nr _ _ (fun l => (mL l).getD 0) (fun l hl pl => ?_) (fun l w hl hw pl pw e => ?_)
    · rw [Bool.and_eq_true] at pl
      obtain ⟨r, hr⟩ := Option.isSome_iff_exists.mp pl.2
      simp only [hr, Option.getD_some]
      have := hm.1 l r hr
      exact ⟨this.2.1, ex_iff.mpr ⟨l, hl, by rw [pl.1, this.2.2.1]; rfl⟩⟩
    · rw [Bool.and_eq_true] at pl pw
      obtain ⟨r, hr⟩ := Option.isSome_iff_exists.mp pl.2
      obtain ⟨r2, hr2⟩ := Option.isSome_iff_exists.mp pw.2
      simp only [hr, hr2, Option.getD_some] at e
      subst e
      have a := (hm.1 l r hr).2.2.2
      have b := (hm.1 w r hr2).2.2.2
      rw [a] at b
      exact Option.some.inj b
  have c : cnt nl (fun l => f l && !(mL l).isSome) ≤ cnt nl (fun l => !(mL l).isSome) := cnt_sub (fun i _ h => by rw [Bool.and_eq_true] at h; exact h.2)
  have d := cnt_not nl (fun l => (mL l).isSome)
  have e : cnt nl (fun l => (mL l).isSome) = sz nl mL := rfl
  omega
theorem lack_at {nl nr : Nat} {E : Nat → Nat → Bool} {mL mR : Nat → Option Nat} {Sx : Nat → Bool} (hm : MT nl nr E mL mR) (h : CERT nl E mL mR Sx) : nbS E nl nr Sx + (nl - sz nl mL) ≤ cnt nl Sx := by
  obtain ⟨h1, h2, h3⟩ := h
  have a := cnt_split nl Sx (fun l => (mL l).isSome)
  have b : nbS E nl nr Sx ≤ cnt nl (fun l => Sx l && (mL l).isSome) := by
    refine cnt_inj nr nl _ _ (fun r => (mR r).getD 0) (fun r hr pr => ?_) (fun r w hr hw pr pw e => ?_)
    · obtain ⟨l, hl, q⟩ := ex_iff.mp pr
      rw [Bool.and_eq_true] at q
      obtain ⟨l', k, s⟩ := h2 l r q.1 q.2
      simp only [k, Option.getD_some]
      have := hm.r k
      exact ⟨this.1, by rw [s, this.2.2.2]; rfl⟩
    · obtain ⟨l, hl, q⟩ := ex_iff.mp pr
      rw [Bool.and_eq_true] at q
      obtain ⟨l', k, s⟩ := h2 l r q.1 q.2
      obtain ⟨l2, hl2, q2⟩ := ex_iff.mp pw
      rw [Bool.and_eq_true] at q2
      obtain ⟨l3, k3, s3⟩ := h2 l2 w q2.1 q2.2
      simp only [k, k3, Option.getD_some] at e
      subst e
      have a := (hm.r k).2.2.2
      have b := (hm.r k3).2.2.2
      rw [a] at b
      exact Option.some.inj b
  have c : cnt nl (fun l => !(mL l).isSome) ≤ cnt nl (fun l => Sx l && !(mL l).isSome) := cnt_sub (fun i hi h => by
    rw [h, h1 i hi (by cases q : mL i with
      | none => rfl
      | some v => rw [q] at h; simp at h)]; rfl)
  have d := cnt_not nl (fun l => (mL l).isSome)
  have e : cnt nl (fun l => (mL l).isSome) = sz nl mL := rfl
  omega
theorem bit_out {n x i : Nat} (hx : x < 2 ^ n) (hi : n ≤ i) : x.testBit i = false := Nat.testBit_lt_two_pow (Nat.lt_of_lt_of_le hx (Nat.pow_le_pow_right (by decide) hi))
theorem pop_n {n x : Nat} (hn : n ≤ 12) (hx : x < 2 ^ n) : cnt 12 (fun z => x.testBit z) = cnt n (fun z => x.testBit z) := cnt_wide hn (fun i a _ => bit_out hx a)
theorem mk_n {n : Nat} {f : Nat → Bool} (h : ∀ z, f z = true → z < n) : mk f < 2 ^ n := by
  apply Nat.lt_pow_two_of_testBit
  intro i hi
  rw [mk_tb]
  cases q : f i with
  | false => simp
  | true => have := h i q; omega
theorem gex_spec {E : Nat → Nat → Bool} {nl nr : Nat} : ∀ X, (∀ x, x < X → cnt 12 (fun z => x.testBit z) ≤ nbc E nl nr x + gex E nl nr X) ∧ (gex E nl nr X = 0 ∨ ∃ x, x < X ∧ cnt 12 (fun z => x.testBit z) = nbc E nl nr x + gex E nl nr X)
  | 0 => ⟨fun x h => absurd h (Nat.not_lt_zero _), Or.inl rfl⟩
  | X + 1 => by
    obtain ⟨i1, i2⟩ := gex_spec (E := E) (nl := nl) (nr := nr) X
    rw [gex]
    by_cases c : gex E nl nr X + nbc E nl nr X < cnt 12 (fun z => X.testBit z)
    · rw [if_pos c]
      refine ⟨fun x hx => ?_, Or.inr ⟨X, by omega, by omega⟩⟩
      by_cases e : x = X
      · subst e; omega
      · have := i1 x (by omega)
        omega
    · rw [if_neg c]
      refine ⟨fun x hx => ?_, ?_⟩
      · by_cases e : x = X
        · subst e; omega
        · exact i1 x (by omega)
      · rcases i2 with h | ⟨x, a, b⟩
        · exact Or.inl h
        · exact Or.inr ⟨x, by omega, b⟩
/-- what is missing at the left side -/
theorem gex_eq {nl nr : Nat} {E : Nat → Nat → Bool} {mL mR : Nat → Option Nat} (hm : MT nl nr E mL mR) (hnl : nl ≤ 12) (hnr : nr ≤ 12) (hE : EB nl nr E) (hx : LMx nl nr E (sz nl mL)) : gex E nl nr (2 ^ nl) = nl - sz nl mL := by
  obtain ⟨g1, g2⟩ := gex_spec (E := E) (nl := nl) (nr := nr) (2 ^ nl)
  obtain ⟨Sx, hS⟩ := cert_of hm hnl hnr hE hx
  apply Nat.le_antisymm
  · rcases g2 with h | ⟨x, a, b⟩
    · omega
    · have := lack hm (fun l => x.testBit l)
      rw [pop_n hnl a, nbc_S] at b
      omega
  · have a := lack_at hm hS
    have b := g1 (mk Sx) (mk_n hS.2.2)
    rw [pop_n hnl (mk_n hS.2.2), nbc_S, nbS_congr (g := Sx) (fun l hl => mk_tb' _ (by omega)), cnt_congr (q := Sx) (fun l hl => mk_tb' _ (by omega))] at b
    omega
theorem nod_S {E : Nat → Nat → Bool} {nl nr x : Nat} (hnl : nl ≤ 12) (hx : x < 2 ^ nl) : nod E nl nr x + cnt nl (fun z => !x.testBit z) = nl + nbS E nl nr (fun z => !x.testBit z) := by
  unfold nod
  rw [nbc_S, nbS_congr (g := fun z => !x.testBit z) (fun l hl => by rw [mk_tb' _ (by omega)]; simp [hl]), pop_n hnl hx]
  have := cnt_not nl (fun z => x.testBit z)
  omega
theorem nod_ge {nl nr x : Nat} {E : Nat → Nat → Bool} {mL mR : Nat → Option Nat} (hm : MT nl nr E mL mR) (hnl : nl ≤ 12) (hx : x < 2 ^ nl) : sz nl mL ≤ nod E nl nr x := by
  have a := nod_S (E := E) (nr := nr) hnl hx
  have b := lack hm (fun z => !x.testBit z)
  have c := sz_le nl mL
  omega
theorem nod_at {nl nr : Nat} {E : Nat → Nat → Bool} {mL mR : Nat → Option Nat} (hm : MT nl nr E mL mR) (hnl : nl ≤ 12) (hnr : nr ≤ 12) (hE : EB nl nr E) (hx : LMx nl nr E (sz nl mL)) : ∃ x, x < 2 ^ nl ∧ nod E nl nr x = sz nl mL := by
  obtain ⟨Sx, hS⟩ := cert_of hm hnl hnr hE hx
  have hlt : mk (fun z => decide (z < nl) && !Sx z) < 2 ^ nl := mk_n (fun z h => by simpa using (Bool.and_eq_true _ _ ▸ h : decide (z < nl) = true ∧ (!Sx z) = true).1)
  have hb : ∀ z, z < nl → (!(mk (fun z => decide (z < nl) && !Sx z)).testBit z) = Sx z := fun z hz => by rw [mk_tb' _ (by omega)]; simp [hz]
  refine ⟨_, hlt, ?_⟩
  have a := nod_S (E := E) (nr := nr) hnl hlt
  rw [nbS_congr hb, cnt_congr hb] at a
  have b := lack_at hm hS
  have c := lack hm Sx
  have d := sz_le nl mL
  omega
theorem lcv_spec {E : Nat → Nat → Bool} {nl nr : Nat} : ∀ X, (∀ x, x < X → (lcv E nl nr X).2 ≤ nod E nl nr x) ∧ ((lcv E nl nr X).2 = 24 ∨ ∃ x, x < X ∧ nod E nl nr x = (lcv E nl nr X).2) ∧ (lcv E nl nr X).1 = cnt X (fun x => decide (nod E nl nr x = (lcv E nl nr X).2))
  | 0 => ⟨fun x h => absurd h (Nat.not_lt_zero _), Or.inl rfl, rfl⟩
  | X + 1 => by
    obtain ⟨i1, i2, i3⟩ := lcv_spec (E := E) (nl := nl) (nr := nr) X
    rcases Nat.lt_trichotomy (nod E nl nr X) (lcv E nl nr X).2 with h | h | h
    · rw [lcv_lt h]
      refine ⟨fun x hx => ?_, Or.inr ⟨X, by omega, rfl⟩, ?_⟩
      · show nod E nl nr X ≤ _
        by_cases e : x = X
        · subst e; exact Nat.le_refl _
        · have := i1 x (by omega); omega
      · show 1 = _
        rw [cnt_yes (by simp)]
        refine congrArg (· + 1) ?_
        have : cnt X (fun x => decide (nod E nl nr x = nod E nl nr X)) = cnt X (fun _ => false) := cnt_congr (fun x hx => decide_eq_false (by have := i1 x hx; omega))
        rw [this, cnt_zero]
    · rw [lcv_eq h]
      refine ⟨fun x hx => ?_, ?_, ?_⟩
      · show (lcv E nl nr X).2 ≤ _
        by_cases e : x = X
        · subst e; omega
        · exact i1 x (by omega)
      · exact Or.inr ⟨X, by omega, h⟩
      · show (lcv E nl nr X).1 + 1 = _
        rw [cnt_yes (by simpa using h), i3]
    · rw [lcv_gt h]
      refine ⟨fun x hx => ?_, ?_, ?_⟩
      · by_cases e : x = X
        · subst e; omega
        · exact i1 x (by omega)
      · rcases i2 with h | ⟨x, a, b⟩
        · exact Or.inl h
        · exact Or.inr ⟨x, by omega, b⟩
      · rw [cnt_no (by simp; omega)]
        exact i3
