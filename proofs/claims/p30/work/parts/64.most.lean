/-! a set of right nodes has a way exactly if a matching uses it; the largest one -/
def UM (l nr : Nat) (E : Nat → Nat → Bool) (x : Nat) : Prop := ∃ aL aR, MT l nr E aL aR ∧ ∀ r, r < 12 → x.testBit r = (aR r).isSome
theorem MT.wide {l k nr : Nat} {E : Nat → Nat → Bool} {aL aR : Nat → Option Nat} (h : MT l nr E aL aR) (hk : l ≤ k) : MT k nr E aL aR :=
  ⟨fun z r q => by obtain ⟨a, b, c, d⟩ := h.1 z r q; exact ⟨by omega, b, c, d⟩, h.2⟩
theorem MT.at_none {l nr : Nat} {E : Nat → Nat → Bool} {aL aR : Nat → Option Nat} (h : MT (l + 1) nr E aL aR) (k : aL l = none) : MT l nr E aL aR :=
  ⟨fun z r q => by
    obtain ⟨a, b, c, d⟩ := h.1 z r q
    have : ¬ z = l := fun e => by rw [e, k] at q; cases q
    exact ⟨by omega, b, c, d⟩, h.2⟩
theorem wf_pos {E : Nat → Nat → Bool} {nr : Nat} (hnr : nr ≤ 12) : ∀ l x, x < 2 ^ nr → (0 < wf E nr l x ↔ UM l nr E x)
  | 0, x, hx => by
    have hp := pow12 hnr
    show 0 < (if x = 0 then 1 else 0) ↔ _
    constructor
    · intro h
      by_cases e : x = 0
      · subst e
        exact ⟨fun _ => none, fun _ => none, ⟨(fun l r q => by cases q), (fun r l q => by cases q)⟩, fun r _ => by simp⟩
      · rw [if_neg e] at h; omega
    · rintro ⟨aL, aR, hm, hb⟩
      rw [if_pos]
      · omega
      · rw [eq_mk (f := fun _ => false) (show x < 4096 by omega) (fun r hr => by
          rw [hb r hr]
          cases q : aR r with
          | none => rfl
          | some z => have := (hm.r q).1; omega)]
        exact mk_0 (fun _ _ => rfl)
  | l + 1, x, hx => by
    have hp := pow12 hnr
    have ih := wf_pos (E := E) hnr l
    have e : 0 < wf E nr (l + 1) x ↔ 0 < wf E nr l x ∨ ∃ i, i < nr ∧ x.testBit i = true ∧ E l i = true ∧ 0 < wf E nr l (clr x i) := by
      show 0 < wf E nr l x + sg nr (fun i => if x.testBit i && E l i then wf E nr l (clr x i) else 0) ↔ _
      generalize hG : (fun i => if x.testBit i && E l i then wf E nr l (clr x i) else 0) = G
      have hg : ∀ i, G i = if x.testBit i && E l i then wf E nr l (clr x i) else 0 := fun i => by rw [← hG]
      constructor
      · intro h
        by_cases a : 0 < wf E nr l x
        · exact Or.inl a
        · obtain ⟨i, hi, q⟩ := sg_pos.mp (show 0 < sg nr G by omega)
          rw [hg] at q
          by_cases c : (x.testBit i && E l i) = true
          · rw [if_pos c] at q
            rw [Bool.and_eq_true] at c
            exact Or.inr ⟨i, hi, c.1, c.2, q⟩
          · rw [if_neg c] at q; omega
      · rintro (h | ⟨i, hi, a, b, c⟩)
        · omega
        · have := (sg_pos (h := G) (n := nr)).mpr ⟨i, hi, by rw [hg, if_pos (by rw [a, b]; rfl)]; exact c⟩
          omega
    rw [e]
    constructor
    · rintro (h | ⟨i, hi, a, b, c⟩)
      · obtain ⟨aL, aR, hm, hb⟩ := (ih x hx).mp h
        exact ⟨aL, aR, hm.wide (by omega), hb⟩
      · have hcl := clr_le (r := i) (x := x) (by omega) a
        obtain ⟨aL, aR, hm, hb⟩ := (ih _ (by omega)).mp c
        have h2 : aR i = none := by
          have := hb i (by omega)
          rw [clr_tb x i i (by omega)] at this
          cases q : aR i with
          | none => rfl
          | some v => rw [q] at this; simp at this
        have h1 : aL l = none := by
          cases q : aL l with
          | none => rfl
          | some v => have := (hm.1 l v q).1; omega
        refine ⟨_, _, (hm.wide (k := l + 1) (by omega)).ins (by omega) hi b h1 h2, fun r hr => ?_⟩
        have := hb r hr
        rw [clr_tb x i r (by omega)] at this
        by_cases e : r = i
        · subst e; rw [up_at, a]; rfl
        · rw [up_ne _ _ e, ← this]; simp [e]
    · rintro ⟨aL, aR, hm, hb⟩
      cases q : aL l with
      | none => exact Or.inl ((ih x hx).mpr ⟨aL, aR, hm.at_none q, hb⟩)
      | some i =>
        obtain ⟨k1, k2, k3, k4⟩ := hm.1 l i q
        have a : x.testBit i = true := by rw [hb i (by omega), k4]; rfl
        have hcl := clr_le (r := i) (x := x) (by omega) a
        refine Or.inr ⟨i, k2, a, k3, (ih _ (by omega)).mpr ⟨va_up aL l none, va_up aR i none, ((hm.cut q).mono (fun a b z => rm_sub z)).at_none (up_at _ _ _), fun r hr => ?_⟩⟩
        rw [clr_tb x i r (by omega), hb r hr]
        by_cases e : r = i
        · subst e; rw [up_at]; simp
        · rw [up_ne _ _ e]; simp [e]
theorem sz_R {nl nr : Nat} {E : Nat → Nat → Bool} {aL aR : Nat → Option Nat} (hm : MT nl nr E aL aR) (hnr : nr ≤ 12) : cnt 12 (fun r => (aR r).isSome) = sz nl aL := by
  apply Nat.le_antisymm
  · refine cnt_inj 12 nl _ _ (fun r => (aR r).getD 0) (fun r hr pr => ?_) (fun r w hr hw pr pw e => ?_)
    · obtain ⟨l, hl⟩ := Option.isSome_iff_exists.mp pr
      simp only [hl, Option.getD_some]
      have := hm.r hl
      exact ⟨this.1, by rw [this.2.2.2]; rfl⟩
    · obtain ⟨l, hl⟩ := Option.isSome_iff_exists.mp pr
      obtain ⟨l2, hl2⟩ := Option.isSome_iff_exists.mp pw
      simp only [hl, hl2, Option.getD_some] at e
      subst e
      have a := (hm.r hl).2.2.2
      have b := (hm.r hl2).2.2.2
      rw [a] at b
      exact Option.some.inj b
  · refine cnt_inj nl 12 _ _ (fun l => (aL l).getD 0) (fun l hl pl => ?_) (fun l w hl hw pl pw e => ?_)
    · obtain ⟨r, hr⟩ := Option.isSome_iff_exists.mp pl
      simp only [hr, Option.getD_some]
      have := hm.1 l r hr
      exact ⟨by omega, by rw [this.2.2.2]; rfl⟩
    · obtain ⟨r, hr⟩ := Option.isSome_iff_exists.mp pl
      obtain ⟨r2, hr2⟩ := Option.isSome_iff_exists.mp pw
      simp only [hr, hr2, Option.getD_some] at e
      subst e
      have a := (hm.1 l r hr).2.2.2
      have b := (hm.1 w r hr2).2.2.2
      rw [a] at b
      exact Option.some.inj b
theorem mst_spec (Wv : Nat → Nat) : ∀ n, (∀ x, x < n → 0 < Wv x → cnt 12 (fun z => x.testBit z) ≤ mst Wv n) ∧ (mst Wv n = 0 ∨ ∃ x, x < n ∧ 0 < Wv x ∧ cnt 12 (fun z => x.testBit z) = mst Wv n)
  | 0 => ⟨fun x h => absurd h (Nat.not_lt_zero _), Or.inl rfl⟩
  | n + 1 => by
    obtain ⟨i1, i2⟩ := mst_spec Wv n
    rw [mst]
    by_cases c : 0 < Wv n ∧ mst Wv n < cnt 12 (fun z => n.testBit z)
    · rw [if_pos c]
      refine ⟨fun x hx h => ?_, Or.inr ⟨n, by omega, c.1, rfl⟩⟩
      by_cases e : x = n
      · subst e; exact Nat.le_refl _
      · have := i1 x (by omega) h
        omega
    · rw [if_neg c]
      refine ⟨fun x hx h => ?_, ?_⟩
      · by_cases e : x = n
        · subst e
          rcases Nat.lt_or_ge (mst Wv x) (cnt 12 (fun z => x.testBit z)) with k | k
          · exact absurd ⟨h, k⟩ c
          · exact k
        · exact i1 x (by omega) h
      · rcases i2 with h | ⟨x, a, b, d⟩
        · exact Or.inl h
        · exact Or.inr ⟨x, by omega, b, d⟩
/-- the size of a largest matching, as the reference finds it -/
theorem mst_eq {nl nr : Nat} {E : Nat → Nat → Bool} {aL aR : Nat → Option Nat} (hnr : nr ≤ 12) (hm : MT nl nr E aL aR) (hx : LMx nl nr E (sz nl aL)) : mst (wyr E nr nl) (2 ^ nr) = sz nl aL := by
  obtain ⟨h1, h2⟩ := mst_spec (wyr E nr nl) (2 ^ nr)
  have hp := pow12 hnr
  apply Nat.le_antisymm
  · rcases h2 with h | ⟨x, a, b, d⟩
    · omega
    · rw [wyr_wf hnr nl x a] at b
      obtain ⟨bL, bR, k, hb⟩ := (wf_pos hnr nl x a).mp b
      rw [← d, cnt_congr hb, sz_R k hnr]
      exact hx bL bR k
  · have hb : ∀ r, r < 12 → (mk (fun r => (aR r).isSome)).testBit r = (aR r).isSome := fun r hr => mk_tb' _ hr
    have hlt : mk (fun r => (aR r).isSome) < 2 ^ nr := by
      apply Nat.lt_pow_two_of_testBit
      intro i hi
      rw [mk_tb]
      cases q : aR i with
      | none => simp
      | some v => have := (hm.r q).2.1; omega
    have := h1 _ hlt (by rw [wyr_wf hnr nl _ hlt]; exact (wf_pos hnr nl _ hlt).mpr ⟨aL, aR, hm, hb⟩)
    rw [cnt_congr hb, sz_R hm hnr] at this
    exact this
