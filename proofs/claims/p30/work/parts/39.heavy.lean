/-! the heavy parts, by passes -/
theorem cnt_mono {f g : Nat → Bool} (h : ∀ z, f z = true → g z = true) : ∀ n, cnt n f ≤ cnt n g
  | 0 => Nat.le_refl _
  | n + 1 => by
    have ih := cnt_mono h n
    rw [cnt, cnt]
    by_cases q : f n = true
    · rw [if_pos q, if_pos (h n q)]; omega
    · rw [if_neg q]; omega
theorem cnt_less {f g : Nat → Bool} (h : ∀ z, f z = true → g z = true) {z0 : Nat} (hf : f z0 = false) (hg : g z0 = true) : ∀ n, z0 < n → cnt n f < cnt n g
  | 0, hn => absurd hn (Nat.not_lt_zero _)
  | n + 1, hn => by
    rw [cnt, cnt]
    by_cases e : n = z0
    · subst e
      have := cnt_mono h n
      rw [if_pos hg, if_neg (by rw [hf]; decide)]
      omega
    · have ih := cnt_less h hf hg n (by omega)
      by_cases q : f n = true
      · rw [if_pos q, if_pos (h n q)]; omega
      · rw [if_neg q]; omega
section ITH
variable {E : Nat → Nat → Bool} {p : Nat → Option Nat} {F : Nat → Bool}
theorem itH_s {n z : Nat} : itH E p F (n + 1) z = (itH E p F n z || ptn p (nbr E (itH E p F n)) z) := rfl
theorem itH_up {n z : Nat} (h : itH E p F n z = true) : itH E p F (n + 1) z = true := by
  rw [itH_s, h]; rfl
theorem itH_le {n m z : Nat} (hnm : n ≤ m) (h : itH E p F n z = true) : itH E p F m z = true := by
  obtain ⟨k, rfl⟩ := Nat.le.dest hnm
  clear hnm
  induction k with
  | zero => exact h
  | succ k ih => exact itH_up ih
theorem itH_lt {b : Nat} (hF : ∀ z, F z = true → z < b) (hp : ∀ r z, p r = some z → z < b) : ∀ {n z : Nat}, itH E p F n z = true → z < b
  | 0, z, h => hF z h
  | n + 1, z, h => by
    rw [itH_s, Bool.or_eq_true] at h
    rcases h with h | h
    · exact itH_lt hF hp h
    · obtain ⟨r, hr, q⟩ := ex_iff.mp h
      rw [Bool.and_eq_true, beq_iff_eq] at q
      exact hp r z q.2
theorem itH_same {m : Nat} (h : itH E p F (m + 1) = itH E p F m) : itH E p F (m + 2) = itH E p F (m + 1) := by
  funext z
  show (itH E p F (m + 1) z || ptn p (nbr E (itH E p F (m + 1))) z) = (itH E p F m z || ptn p (nbr E (itH E p F m)) z)
  rw [h]
theorem itH_grow {m : Nat} (h : ¬ itH E p F (m + 1) = itH E p F m) : ∃ z, itH E p F (m + 1) z = true ∧ itH E p F m z = false := by
  refine Classical.byContradiction fun q => h (funext fun z => ?_)
  cases k : itH E p F m z with
  | true => exact itH_up k
  | false =>
    cases k2 : itH E p F (m + 1) z with
    | false => rfl
    | true => exact absurd ⟨z, k2, k⟩ q
theorem itH_stab (hF : ∀ z, F z = true → z < 12) (hp : ∀ r z, p r = some z → z < 12) : itH E p F 12 = itH E p F 11 := by
  by_cases hne : ∃ z, F z = true
  · have key : ∀ m, itH E p F (m + 1) = itH E p F m ∨ m + 2 ≤ cnt 12 (itH E p F (m + 1)) := by
      intro m
      induction m with
      | zero =>
        by_cases q : itH E p F 1 = itH E p F 0
        · exact Or.inl q
        · obtain ⟨z, h1, h2⟩ := itH_grow q
          obtain ⟨y, hy⟩ := hne
          have a : cnt 12 (fun _ => false) < cnt 12 (itH E p F 0) := cnt_less (f := fun _ => false) (g := itH E p F 0) (fun _ h => by cases h) (z0 := y) rfl hy 12 (hF y hy)
          have b : cnt 12 (itH E p F 0) < cnt 12 (itH E p F 1) := cnt_less (f := itH E p F 0) (g := itH E p F 1) (fun z h => itH_up h) h2 h1 12 (itH_lt hF hp h1)
          exact Or.inr (by show 2 ≤ cnt 12 (itH E p F 1); omega)
      | succ m ih =>
        by_cases q : itH E p F (m + 2) = itH E p F (m + 1)
        · exact Or.inl q
        · obtain ⟨z, h1, h2⟩ := itH_grow q
          have b : cnt 12 (itH E p F (m + 1)) < cnt 12 (itH E p F (m + 2)) := cnt_less (f := itH E p F (m + 1)) (g := itH E p F (m + 2)) (fun z h => itH_up h) h2 h1 12 (itH_lt hF hp h1)
          rcases ih with h | h
          · exact absurd (itH_same h) q
          · exact Or.inr (by show m + 1 + 2 ≤ cnt 12 (itH E p F (m + 2)); omega)
    rcases key 11 with h | h
    · exact h
    · have := cnt_le (itH E p F 12) 12
      exact absurd h (by show ¬ 11 + 2 ≤ cnt 12 (itH E p F 12); omega)
  · have hz : ∀ n z, itH E p F n z = false := by
      intro n
      induction n with
      | zero =>
        intro z
        show F z = false
        cases k : F z with
        | false => rfl
        | true => exact absurd ⟨z, k⟩ hne
      | succ n ih =>
        intro z
        rw [itH_s, ih z, Bool.false_or]
        exact ex_no.mpr (fun i _ => by
          have : nbr E (itH E p F n) i = false := ex_no.mpr (fun w _ => by rw [ih w]; rfl)
          rw [this]; rfl)
    funext z
    rw [hz, hz]
end ITH
/-- one table for both sides -/
def jn (Sa Ta : Nat → Bool) : Nat → Bool := fun k => if k < 12 then Sa k else Ta (k - 12)
theorem jn_l {Sa Ta : Nat → Bool} {i : Nat} (h : i < 12) : jn Sa Ta i = Sa i := by unfold jn; rw [if_pos h]
theorem jn_r {Sa Ta : Nat → Bool} {j : Nat} : jn Sa Ta (12 + j) = Ta j := by
  unfold jn
  rw [if_neg (by omega), show 12 + j - 12 = j by omega]
theorem jn_upl {Sa Ta : Nat → Bool} {i kk : Nat} {b : Bool} (h : i < 12) : va_up (jn Sa Ta) i b kk = jn (va_up Sa i b) Ta kk := by
  unfold va_up jn
  by_cases e : kk = i
  · subst e; simp [h]
  · simp [e]
theorem jn_upr {Sa Ta : Nat → Bool} {j kk : Nat} {b : Bool} : va_up (jn Sa Ta) (12 + j) b kk = jn Sa (va_up Ta j b) kk := by
  unfold va_up jn
  by_cases e : kk = 12 + j
  · subst e
    rw [if_pos rfl, if_neg (by omega)]
    show b = if 12 + j - 12 = j then b else Ta (12 + j - 12)
    rw [if_pos (by omega)]
  · by_cases q : kk < 12
    · simp [e, q]
    · have : ¬ kk - 12 = j := by omega
      simp [e, q, this]
theorem jn_self (a : Nat → Bool) (kk : Nat) : a kk = jn a (fun r => a (12 + r)) kk := by
  unfold jn
  by_cases q : kk < 12
  · simp [q]
  · simp only [q, if_false]
    rw [show 12 + (kk - 12) = kk by omega]
def stT (E : Nat → Nat → Bool) (Sa Ta : Nat → Bool) (a b : Nat) : Nat → Bool := va_up Ta b (Ta b || (E a b && Sa a))
def stS (mm : Bool) (Sa Ta : Nat → Bool) (a b : Nat) : Nat → Bool := va_up Sa a (Sa a || (mm && Ta b))
theorem stT_at {E : Nat → Nat → Bool} {Sa Ta : Nat → Bool} {a b : Nat} : stT E Sa Ta a b b = (Ta b || (E a b && Sa a)) := by unfold stT va_up; rw [if_pos rfl]
theorem stS_at {mm : Bool} {Sa Ta : Nat → Bool} {a b : Nat} : stS mm Sa Ta a b a = (Sa a || (mm && Ta b)) := by unfold stS va_up; rw [if_pos rfl]
theorem stT_up {E : Nat → Nat → Bool} {Sa Ta : Nat → Bool} {a b r : Nat} (h : Ta r = true) : stT E Sa Ta a b r = true := by
  unfold stT va_up
  by_cases e : r = b
  · subst e; simp [h]
  · simp [e, h]
theorem stS_up {mm : Bool} {Sa Ta : Nat → Bool} {a b r : Nat} (h : Sa r = true) : stS mm Sa Ta a b r = true := by
  unfold stS va_up
  by_cases e : r = a
  · subst e; simp [h]
  · simp [e, h]
/-- what a pass holds; Dd: the pairs that it has seen -/
def HV (E : Nat → Nat → Bool) (mR : Nat → Option Nat) (F : Nat → Bool) (k : Nat) (Dd : Nat → Nat → Prop) (Sa Ta : Nat → Bool) : Prop :=
  (∀ z, Sa z = true → itH E mR F 12 z = true) ∧ (∀ r, Ta r = true → nbr E (itH E mR F 11) r = true) ∧ (∀ z, itH E mR F (k / 2) z = true → Sa z = true) ∧ (0 < k → ∀ r, nbr E (itH E mR F ((k - 1) / 2)) r = true → Ta r = true) ∧
  (∀ l r, Dd l r → itH E mR F (k / 2) l = true → E l r = true → Ta r = true) ∧ (∀ l r, Dd l r → 0 < k → nbr E (itH E mR F ((k - 1) / 2)) r = true → mR r = some l → Sa l = true)
theorem nbr_in {E : Nat → Nat → Bool} {f : Nat → Bool} {l r : Nat} (hl : l < 12) (h : f l = true) (e : E l r = true) : nbr E f r = true := ex_iff.mpr ⟨l, hl, by rw [h, e]; rfl⟩
theorem ptn_in {p : Nat → Option Nat} {f : Nat → Bool} {l r : Nat} (hr : r < 12) (h : f r = true) (e : p r = some l) : ptn p f l = true := ex_iff.mpr ⟨r, hr, by rw [h, e]; simp⟩
theorem HV.step {E : Nat → Nat → Bool} {mR : Nat → Option Nat} {F : Nat → Bool} {k : Nat} {Dd : Nat → Nat → Prop} {Sa Ta : Nat → Bool} (hF : ∀ z, F z = true → z < 12) (hp : ∀ r z, mR r = some z → z < 12) (h : HV E mR F k Dd Sa Ta) {a b : Nat} (hb : b < 12) {mm : Bool} (hm : mm = true ↔ mR b = some a) {Dd2 : Nat → Nat → Prop} (hD : ∀ l r, Dd2 l r → Dd l r ∨ (l = a ∧ r = b)) :
    HV E mR F k Dd2 (stS mm Sa (stT E Sa Ta a b) a b) (stT E Sa Ta a b) := by
  obtain ⟨h1, h2, h3, h4, h5, h6⟩ := h
  have hT : ∀ r, stT E Sa Ta a b r = true → nbr E (itH E mR F 11) r = true := by
    intro r hr
    unfold stT va_up at hr
    by_cases e : r = b
    · subst e
      rw [if_pos rfl, Bool.or_eq_true, Bool.and_eq_true] at hr
      rcases hr with q | q
      · exact h2 r q
      · have q2 := h1 a q.2
        rw [itH_stab hF hp] at q2
        exact nbr_in (itH_lt hF hp q2) q2 q.1
    · rw [if_neg e] at hr; exact h2 r hr
  refine ⟨fun z hz => ?_, hT, fun z hz => stS_up (h3 z hz), fun hk r hr => stT_up (h4 hk r hr), fun l r hlr hl he => ?_, fun l r hlr hk hr he => ?_⟩
  · unfold stS va_up at hz
    by_cases e : z = a
    · subst e
      rw [if_pos rfl, Bool.or_eq_true, Bool.and_eq_true] at hz
      rcases hz with q | q
      · exact h1 z q
      · rw [itH_s, ptn_in hb (hT b q.2) (hm.mp q.1), Bool.or_true]
    · rw [if_neg e] at hz; exact h1 z hz
  · rcases hD l r hlr with q | ⟨rfl, rfl⟩
    · exact stT_up (h5 l r q hl he)
    · rw [stT_at, he, h3 l hl]; simp
  · rcases hD l r hlr with q | ⟨rfl, rfl⟩
    · exact stS_up (h6 l r q hk hr he)
    · rw [stS_at, hm.mpr he, stT_up (h4 hk r hr)]; simp
theorem HV.mono {E : Nat → Nat → Bool} {mR : Nat → Option Nat} {F : Nat → Bool} {k : Nat} {Dd Dd2 : Nat → Nat → Prop} {Sa Ta : Nat → Bool} (h : HV E mR F k Dd Sa Ta) (hD : ∀ l r, Dd2 l r → (E l r = true ∨ mR r = some l) → Dd l r) : HV E mR F k Dd2 Sa Ta := by
  obtain ⟨h1, h2, h3, h4, h5, h6⟩ := h
  exact ⟨h1, h2, h3, h4, fun l r q hl he => h5 l r (hD l r q (Or.inl he)) hl he, fun l r q hk hr he => h6 l r (hD l r q (Or.inr he)) hk hr he⟩
theorem HV.next {E : Nat → Nat → Bool} {mR : Nat → Option Nat} {F : Nat → Bool} {k : Nat} {Dd Dd2 : Nat → Nat → Prop} {Sa Ta : Nat → Bool} (h : HV E mR F k Dd Sa Ta) (hD : ∀ l r, (E l r = true ∨ mR r = some l) → Dd l r) (hD2 : ∀ l r, ¬ Dd2 l r) : HV E mR F (k + 1) Dd2 Sa Ta := by
  obtain ⟨h1, h2, h3, h4, h5, h6⟩ := h
  refine ⟨h1, h2, fun z hz => ?_, fun _ r hr => ?_, fun l r q => absurd q (hD2 l r), fun l r q => absurd q (hD2 l r)⟩
  · by_cases e : k % 2 = 0
    · rw [show (k + 1) / 2 = k / 2 by omega] at hz
      exact h3 z hz
    · rw [show (k + 1) / 2 = (k - 1) / 2 + 1 by omega, itH_s, Bool.or_eq_true] at hz
      rcases hz with q | q
      · rw [show (k - 1) / 2 = k / 2 by omega] at q
        exact h3 z q
      · obtain ⟨r, hr, q2⟩ := ex_iff.mp q
        rw [Bool.and_eq_true, beq_iff_eq] at q2
        exact h6 z r (hD z r (Or.inr q2.2)) (by omega) q2.1 q2.2
  · rw [show (k + 1 - 1) / 2 = k / 2 by omega] at hr
    obtain ⟨w, hw, q⟩ := ex_iff.mp hr
    rw [Bool.and_eq_true] at q
    exact h5 w r (hD w r (Or.inl q.2)) q.1 q.2
theorem HV.start {E : Nat → Nat → Bool} {mR : Nat → Option Nat} {F : Nat → Bool} {Dd : Nat → Nat → Prop} (hD : ∀ l r, ¬ Dd l r) : HV E mR F 0 Dd F (fun _ => false) :=
  ⟨fun z h => itH_le (n := 0) (by omega) h, (fun r h => by cases h), fun z h => h, fun h => absurd h (Nat.lt_irrefl _), fun l r q => absurd q (hD l r), fun l r q => absurd q (hD l r)⟩
theorem HV.endS {E : Nat → Nat → Bool} {mR : Nat → Option Nat} {F : Nat → Bool} {Dd : Nat → Nat → Prop} {Sa Ta : Nat → Bool} (h : HV E mR F 24 Dd Sa Ta) (z : Nat) : Sa z = itH E mR F 12 z := by
  rw [Bool.eq_iff_iff]
  exact ⟨h.1 z, h.2.2.1 z⟩
theorem HV.endT {E : Nat → Nat → Bool} {mR : Nat → Option Nat} {F : Nat → Bool} {Dd : Nat → Nat → Prop} {Sa Ta : Nat → Bool} (h : HV E mR F 24 Dd Sa Ta) (z : Nat) : Ta z = nbr E (itH E mR F 11) z := by
  rw [Bool.eq_iff_iff]
  exact ⟨h.2.1 z, h.2.2.2.1 (by decide) z⟩
def dd2 (i j : Nat) : Nat → Nat → Prop := fun l r => l < i ∨ (l = i ∧ r < j)
theorem dd2_0 (l r : Nat) : ¬ dd2 0 0 l r := fun h => by unfold dd2 at h; omega
theorem jn_fill {f g a c : Nat → Bool} {i kk : Nat} {b1 b2 : Bool} (hi : i < 12) (h1 : b1 = f i) (h2 : b2 = g i) : va_up (va_up (jn (fun z => if z < i then f z else a z) (fun z => if z < i then g z else c z)) i b1) (12 + i) b2 kk = jn (fun z => if z < i + 1 then f z else a z) (fun z => if z < i + 1 then g z else c z) kk := by
  subst h1
  subst h2
  rw [show va_up (jn (fun z => if z < i then f z else a z) (fun z => if z < i then g z else c z)) i (f i) = jn (va_up (fun z => if z < i then f z else a z) i (f i)) (fun z => if z < i then g z else c z) from funext fun kk => jn_upl hi, jn_upr]
  rw [show va_up (fun z => if z < i then f z else a z) i (f i) = fun z => if z < i + 1 then f z else a z from funext fun kk => up1 f a i kk rfl, show va_up (fun z => if z < i then g z else c z) i (g i) = fun z => if z < i + 1 then g z else c z from funext fun kk => up1 g c i kk rfl]
theorem jn_done {f g a c : Nat → Bool} {i kk : Nat} (hi : 12 ≤ i) (hk : kk < 24) : jn (fun z => if z < i then f z else a z) (fun z => if z < i then g z else c z) kk = jn f g kk := by
  unfold jn
  by_cases q : kk < 12
  · simp only [q, if_true]
    rw [if_pos (by omega)]
  · simp only [q, if_false]
    rw [if_pos (by omega)]
theorem fre_ge {n i : Nat} {p : Nat → Option Nat} (h : n ≤ i) : false = fre n p i := by
  unfold fre
  rw [show decide (i < n) = false from decide_eq_false (by omega)]
  rfl
theorem fre_some {n i v : Nat} {p : Nat → Option Nat} (h : p i = some v) : false = fre n p i := by
  unfold fre
  rw [h]
  simp
theorem fre_none {n i : Nat} {p : Nat → Option Nat} (hi : i < n) (h : p i = none) : true = fre n p i := by
  unfold fre
  rw [h, show decide (i < n) = true from decide_eq_true hi]
  rfl
theorem fre_lt {n z b : Nat} {p : Nat → Option Nat} (hb : n ≤ b) (h : fre n p z = true) : z < b := by
  unfold fre at h
  rw [Bool.and_eq_true, decide_eq_true_eq] at h
  omega
theorem MT.mm1 {nl nr : Nat} {E : Nat → Nat → Bool} {mL mR : Nat → Option Nat} (h : MT nl nr E mL mR) {i j : Nat} : (E i j && (mL i == some j)) = true ↔ mR j = some i := by
  rw [Bool.and_eq_true, beq_iff_eq]
  exact ⟨fun q => (h.1 i j q.2).2.2.2, fun q => ⟨(h.r q).2.2.1, (h.r q).2.2.2⟩⟩
theorem MT.mm2 {nl nr : Nat} {E : Nat → Nat → Bool} {mL mR : Nat → Option Nat} (h : MT nl nr E mL mR) {i j : Nat} : (E i j && (mL i == some j)) = true ↔ mL i = some j := by
  rw [Bool.and_eq_true, beq_iff_eq]
  exact ⟨fun q => q.2, fun q => ⟨(h.1 i j q).2.2.1, q⟩⟩
