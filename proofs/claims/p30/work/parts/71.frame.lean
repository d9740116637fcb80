/-! a contract with more cells beside its own -/
section FRM
variable {l : Launch} {y : MethodName} {wy : List Cond} {rm : Room} {D : va_G} {tys : List (ClassId × FieldType)} {W wc : va_W} {av : List Value} {sz mc ms : Nat}
theorem fr_A (isC : List Nat) (hC : isC.map (fun i => W[i]?) = wc.map some) : ∀ q, va_A wc sz q → va_A W sz q := by
  intro q h
  rcases h with ⟨k, e, h⟩ | h
  · have h1 : (isC.map (fun i => W[i]?))[k]? = some (some (q, e)) := by rw [hC, List.getElem?_map, h]; rfl
    rw [List.getElem?_map] at h1
    cases hi : isC[k]? with
    | none => rw [hi] at h1; cases h1
    | some i => rw [hi] at h1; exact Or.inl ⟨i, e, Option.some.inj h1⟩
  · exact Or.inr h
theorem fr_I {U : State} (isC : List Nat) (hC1 : isC.filterMap (fun i => W[i]?) = wc) (hC : isC.map (fun i => W[i]?) = wc.map some) (hnC : va_nd isC = true) (h : jI D tys W sz U) : jI D tys wc sz U := by
  obtain ⟨h1, h2, h3, h4, h5⟩ := h
  exact ⟨h1, h2.sub isC hC1, h3, h4.sub isC hnC hC, h5⟩
theorem fr_Xs {A B : Nat → Prop} {U : State} {H : Heap} (h : jXs A U H) (hAB : ∀ q, B q → A q) : jXs B U H := ⟨h.1, h.2.1, h.2.2.1, h.2.2.2.1, h.2.2.2.2.1.narrow hAB, h.2.2.2.2.2.narrow hAB⟩
theorem fr_O {st t : State} {w1 w2 wr : va_W} (isC isR pm : List Nat) (hC : isC.map (fun i => W[i]?) = wc.map some) (hR : isR.map (fun i => W[i]?) = wr.map some) (hn : va_nd isR = true) (hdis : ∀ i ∈ isR, i ∉ isC) (hp1 : pm.filterMap (fun i => (wr ++ w1)[i]?) = w2) (hp : pm.map (fun i => (wr ++ w1)[i]?) = w2.map some) (hnp : va_nd pm = true)
    (h : jI D tys W sz st) (hO : jO D tys (va_A wc sz) w1 t) (hF : va_F (va_A wc sz) st t) : jO D tys (va_A W sz) w2 t ∧ va_F (va_A W sz) st t := by
  obtain ⟨h1, h2, h3, h4, h5⟩ := h
  subst h1
  obtain ⟨o1, o2, o3⟩ := hO
  have hA := fr_A (sz := st.heap.size) isC hC
  obtain ⟨p1, p2⟩ := va_join (A0 := va_A W st.heap.size) (wr := wr) (w1 := w1) h2 h4.self isC isR hC hR hn hdis hF.2 hA o1 o3
  exact ⟨⟨p1.sub pm hp1, o2, p2.sub pm hnp hp⟩, hF.1, fun q a b => hF.2 q a (fun c => b (hA q c))⟩
theorem fr_Qi {S S' : Type} {post : Int32 → S → Prop} {w1 : S → va_W} {post' : Int32 → S' → Prop} {w2 : S' → va_W} (M : Met l y wy rm (va_Pc av (jI D tys wc sz)) (va_Qi (S := S) post (fun u t => jO D tys (va_A wc sz) (w1 u) t) (va_A wc sz)) mc ms (va_A wc sz)) (f : S → S') (wr : va_W) (isC isR pm : List Nat) (hC1 : isC.filterMap (fun i => W[i]?) = wc) (hC : isC.map (fun i => W[i]?) = wc.map some) (hnC : va_nd isC = true) (hR : isR.map (fun i => W[i]?) = wr.map some) (hn : va_nd isR = true) (hdis : ∀ i ∈ isR, i ∉ isC)
    (hp1 : ∀ u, pm.filterMap (fun i => (wr ++ w1 u)[i]?) = w2 (f u)) (hp : ∀ u, pm.map (fun i => (wr ++ w1 u)[i]?) = (w2 (f u)).map some) (hnp : va_nd pm = true) (hpost : ∀ r u, post r u → post' r (f u)) :
    Met l y wy rm (va_Pc av (jI D tys W sz)) (va_Qi (S := S') post' (fun u t => jO D tys (va_A W sz) (w2 u) t) (va_A W sz)) mc ms (va_A W sz) := by
  refine MetFree.mono M ?_ (fun _ _ _ _ _ h => h) ?_
  · intro a s h
    exact ⟨h.1, fr_I isC hC1 hC hnC h.2⟩
  · rintro a s o t h ⟨⟨⟨r, u, h1, h2, h3⟩, h4⟩, L, h5, h6⟩
    obtain ⟨k1, k2⟩ := fr_O isC isR pm hC hR hn hdis (hp1 u) (hp u) hnp h.2 h3 h4
    exact ⟨⟨⟨r, f u, h1, hpost r u h2, k1⟩, k2⟩, L, h5, fun q hq => fr_A isC hC _ (h6 q hq)⟩
theorem fr_Ql {S S' : Type} {post : Int64 → S → Prop} {w1 : S → va_W} {post' : Int64 → S' → Prop} {w2 : S' → va_W} (M : Met l y wy rm (va_Pc av (jI D tys wc sz)) (va_Ql (S := S) post (fun u t => jO D tys (va_A wc sz) (w1 u) t) (va_A wc sz)) mc ms (va_A wc sz)) (f : S → S') (wr : va_W) (isC isR pm : List Nat) (hC1 : isC.filterMap (fun i => W[i]?) = wc) (hC : isC.map (fun i => W[i]?) = wc.map some) (hnC : va_nd isC = true) (hR : isR.map (fun i => W[i]?) = wr.map some) (hn : va_nd isR = true) (hdis : ∀ i ∈ isR, i ∉ isC)
    (hp1 : ∀ u, pm.filterMap (fun i => (wr ++ w1 u)[i]?) = w2 (f u)) (hp : ∀ u, pm.map (fun i => (wr ++ w1 u)[i]?) = (w2 (f u)).map some) (hnp : va_nd pm = true) (hpost : ∀ r u, post r u → post' r (f u)) :
    Met l y wy rm (va_Pc av (jI D tys W sz)) (va_Ql (S := S') post' (fun u t => jO D tys (va_A W sz) (w2 u) t) (va_A W sz)) mc ms (va_A W sz) := by
  refine MetFree.mono M ?_ (fun _ _ _ _ _ h => h) ?_
  · intro a s h
    exact ⟨h.1, fr_I isC hC1 hC hnC h.2⟩
  · rintro a s o t h ⟨⟨⟨r, u, h1, h2, h3⟩, h4⟩, L, h5, h6⟩
    obtain ⟨k1, k2⟩ := fr_O isC isR pm hC hR hn hdis (hp1 u) (hp u) hnp h.2 h3 h4
    exact ⟨⟨⟨r, f u, h1, hpost r u h2, k1⟩, k2⟩, L, h5, fun q hq => fr_A isC hC _ (h6 q hq)⟩
theorem fr_Xi {S S' SX SX' : Type} {post : Int32 → S → Prop} {w1 : S → va_W} {post' : Int32 → S' → Prop} {w2 : S' → va_W} {px : SX × String → Prop} {wx : SX → va_W} {px' : SX' × String → Prop} {wx' : SX' → va_W} (M : vx_Met l y wy rm (va_Pc av (jXI D tys wc sz)) (va_Qi (S := S) post (fun u t => jO D tys (va_A wc sz) (w1 u) t) (va_A wc sz)) (jXX D tys px wx (va_A wc sz)) mc ms (va_A wc sz)) (f : S → S') (fx : SX → SX') (wr : va_W) (isC isR pm px1 : List Nat) (hC1 : isC.filterMap (fun i => W[i]?) = wc) (hC : isC.map (fun i => W[i]?) = wc.map some) (hnC : va_nd isC = true) (hR : isR.map (fun i => W[i]?) = wr.map some) (hn : va_nd isR = true) (hdis : ∀ i ∈ isR, i ∉ isC)
    (hp1 : ∀ u, pm.filterMap (fun i => (wr ++ w1 u)[i]?) = w2 (f u)) (hp : ∀ u, pm.map (fun i => (wr ++ w1 u)[i]?) = (w2 (f u)).map some) (hnp : va_nd pm = true) (hq1 : ∀ u, px1.filterMap (fun i => (wr ++ wx u)[i]?) = wx' (fx u)) (hq : ∀ u, px1.map (fun i => (wr ++ wx u)[i]?) = (wx' (fx u)).map some) (hnq : va_nd px1 = true) (hpost : ∀ r u, post r u → post' r (f u)) (hpx : ∀ u, px u → px' (fx u.1, u.2)) :
    vx_Met l y wy rm (va_Pc av (jXI D tys W sz)) (va_Qi (S := S') post' (fun u t => jO D tys (va_A W sz) (w2 u) t) (va_A W sz)) (jXX D tys px' wx' (va_A W sz)) mc ms (va_A W sz) := by
  refine MetFree.mono M ?_ (fun _ _ _ _ _ h => h) ?_
  · intro a s h
    exact ⟨h.1, fr_I isC hC1 hC hnC h.2.1, fr_Xs h.2.2 (fr_A isC hC)⟩
  · rintro a s o t h (⟨⟨⟨r, u, h1, h2, h3⟩, h4⟩, L, h5, h6⟩ | ⟨q, h1, E, ce, L, ⟨u, x1, ⟨x2, x3⟩, x4⟩, g1, g2, g3, g4, g5, g6⟩)
    · obtain ⟨k1, k2⟩ := fr_O isC isR pm hC hR hn hdis (hp1 u) (hp u) hnp h.2.1 h3 h4
      exact Or.inl ⟨⟨⟨r, f u, h1, hpost r u h2, k1⟩, k2⟩, L, h5, fun q hq => fr_A isC hC _ (h6 q hq)⟩
    · obtain ⟨k1, k2⟩ := fr_O isC isR px1 hC hR hn hdis (hq1 u.1) (hq u.1) hnq h.2.1 x3 x4
      exact Or.inr ⟨q, h1, E, ce, L, ⟨(fx u.1, u.2), hpx u x1, ⟨x2, k1⟩, k2⟩, g1, g2, g3, g4, g5, fun z hz => fr_A isC hC _ (g6 z hz)⟩
end FRM
/-! a hall's twenty cells, by its state and what nobody reads -/
abbrev St : Type := (Nat → Nat → Bool) × Nat × Nat × Nat × Nat × (Nat → Option Nat) × (Nat → Option Nat)
abbrev sE (s : St) : Nat → Nat → Bool := s.1
abbrev sNl (s : St) : Nat := s.2.1
abbrev sNr (s : St) : Nat := s.2.2.1
abbrev sNe (s : St) : Nat := s.2.2.2.1
abbrev sN (s : St) : Nat := s.2.2.2.2.1
abbrev sL (s : St) : Nat → Option Nat := s.2.2.2.2.2.1
abbrev sR (s : St) : Nat → Option Nat := s.2.2.2.2.2.2
abbrev HI (s : St) : Prop := INV (sNl s) (sNr s) (sNe s) (sN s) (sE s) (sL s) (sR s)
abbrev Jk : Type := Int32 × (Nat → Nat) × (Nat → Int32) × Int32 × Int32 × Int32 × (Nat → Option Nat) × (Nat → Int32) × (Nat → Int32) × Int32 × (Nat → Int32) × (Nat → Int32) × Int32 × Int32 × Int32 × Int32 × (Nat → Nat → Bool) × (Nat → Int64)
def HC (aI aJ : ClassId) (h : Nat → Nat) (s : St) (j : Jk) : va_W := [((h 0), .inr (6, [.ref (h 1), .ref (h 2), .ref (h 3), .ref (h 4), .ref (h 5), .ref (h 6)])), ((h 1), .inr (1, [.ref (h 7), .ref (h 8), .int (nI (sNl s)), .int (nI (sNr s)), .int (nI (sNe s))])), ((h 7), .inl (aI, 12, (.inl (fun kk => nI (mk ((sE s) kk)))))), ((h 8), .inl (aI, 12, (.inl (fun kk => nI (mk ((tr (sE s)) kk)))))), ((h 2), .inr (2, [.ref (h 9), .ref (h 10), .int (nI (sN s))])), ((h 9), .inl (aI, 12, (.inl (fun kk => oI ((sL s) kk))))), ((h 10), .inl (aI, 12, (.inl (fun kk => oI ((sR s) kk))))), ((h 3), .inr (5, [.ref (h 11), .ref (h 12), .int j.1])), ((h 11), .inl (aI, 12, (.inl (fun kk => nI (j.2.1 kk))))), ((h 12), .inl (aI, 12, (.inl (j.2.2.1)))), ((h 4), .inr (4, [.ref (h 13), .ref (h 14), .ref (h 15), .int j.2.2.2.1, .ref (h 16), .int j.2.2.2.2.1, .int j.2.2.2.2.2.1])), ((h 13), .inr (2, [.ref (h 17), .ref (h 18), .int j.2.2.2.2.2.2.2.2.2.1])), ((h 16), .inl (aI, 12, (.inl (fun kk => oI (j.2.2.2.2.2.2.1 kk))))), ((h 14), .inl (aI, 12, (.inl (j.2.2.2.2.2.2.2.1)))), ((h 15), .inl (aI, 12, (.inl (j.2.2.2.2.2.2.2.2.1)))), ((h 17), .inl (aI, 12, (.inl (j.2.2.2.2.2.2.2.2.2.2.1)))), ((h 18), .inl (aI, 12, (.inl (j.2.2.2.2.2.2.2.2.2.2.2.1)))), ((h 5), .inr (0, [.ref (h 19), .int j.2.2.2.2.2.2.2.2.2.2.2.2.1, .int j.2.2.2.2.2.2.2.2.2.2.2.2.2.1, .int j.2.2.2.2.2.2.2.2.2.2.2.2.2.2.1, .int j.2.2.2.2.2.2.2.2.2.2.2.2.2.2.2.1])), ((h 19), .inl (aI, 12, (.inl (fun kk => nI (mk (j.2.2.2.2.2.2.2.2.2.2.2.2.2.2.2.2.1 kk)))))), ((h 6), .inr (3, [.ref (h 20)])), ((h 20), .inl (aJ, 4096, (.inr (.inl (j.2.2.2.2.2.2.2.2.2.2.2.2.2.2.2.2.2)))))]
/-- the states behind the calls that change them -/
def alS (s : St) : St := (sE s, sNl s + 1, sNr s, sNe s, sN s, sL s, sR s)
def arS (s : St) : St := (sE s, sNl s, sNr s + 1, sNe s, sN s, sL s, sR s)
def rbS (s : St) : St := (sE s, sNl s, sNr s, sNe s, prs (sE s) (sNl s) (sNr s) (phC (sE s) (sNl s) (sNr s)), (bS (sE s) (sNl s) (sNr s) (phC (sE s) (sNl s) (sNr s))).1, (bS (sE s) (sNl s) (sNr s) (phC (sE s) (sNl s) (sNr s))).2)
def conS (s : St) (i k : Nat) (q : Nat → Nat) : St := (adE (sE s) i k, sNl s, sNr s, sNe s + 1, sN s + dS (srch (adE (sE s) i k) (sL s) (sR s) (sNl s) (sNr s) q), (flO (srch (adE (sE s) i k) (sL s) (sR s) (sNl s) (sNr s) q) (sL s) (sR s)).1, (flO (srch (adE (sE s) i k) (sL s) (sR s) (sNl s) (sNr s) q) (sL s) (sR s)).2)
def disS (s : St) (i k : Nat) (q : Nat → Nat) : St := (rmE (sE s) i k, sNl s, sNr s, sNe s - 1, if sL s i = some k then sN s - 1 + dS (dcS (sE s) (sL s) (sR s) (sNl s) (sNr s) i k q) else sN s, if sL s i = some k then (flO (dcS (sE s) (sL s) (sR s) (sNl s) (sNr s) i k q) (va_up (sL s) i none) (va_up (sR s) k none)).1 else sL s, if sL s i = some k then (flO (dcS (sE s) (sL s) (sR s) (sNl s) (sNr s) i k q) (va_up (sL s) i none) (va_up (sR s) k none)).2 else sR s)
theorem MT.b12 {nl nr : Nat} {E : Nat → Nat → Bool} {mL mR : Nat → Option Nat} (h : MT nl nr E mL mR) (hnl : nl ≤ 12) (hnr : nr ≤ 12) : (∀ k v, mL k = some v → v < 12) ∧ (∀ k v, mR k = some v → v < 12) :=
  ⟨fun k v q => by have := (h.1 k v q).2.1; omega, fun k v q => by have := (h.1 v k (h.2 k v q)).1; omega⟩
