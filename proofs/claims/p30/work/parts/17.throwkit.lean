/-! methods of my own that throw: what they need, their ends, their calls -/
def jCast : List String := ["java/lang/IllegalStateException", "java/lang/IndexOutOfBoundsException", "java/util/NoSuchElementException"]
def jDecl : List MethodName := [Bundle.initS "java/lang/RuntimeException", Bundle.initS "java/lang/Exception", Bundle.initS Bundle.tN]
def jStrs : List (Nat × String) := [(57, "there are 12 left nodes"), (65, "there are 12 right nodes"), (181, "there is no such left node"), (184, "there is no such right node"), (78, "there is this edge"), (186, "there is no such edge"), (109, "the left node is free"), (118, "the right node is free"), (188, "there is no such phase"), (190, "the left node is not in the square part")]
def jNcs : List (String × String) := [("java/lang/IllegalStateException", "java/lang/IndexOutOfBoundsException"), ("java/util/NoSuchElementException", "java/lang/IndexOutOfBoundsException")]
abbrev jNm : List String := ["java/lang/RuntimeException", "java/lang/Exception"]
def jXs (A : Nat → Prop) (U : State) (H : Heap) : Prop := (∀ C ∈ jCast, va_Nw (.castable C C) U) ∧ (∀ x ∈ jDecl, va_Nw (.declares x) U) ∧ (∀ q ∈ jStrs, ∃ sa : Nat, vk_R RX6 q.1 q.2 sa U) ∧ (∀ q ∈ jNcs, va_Nc q.1 q.2 U) ∧ vx_Zq Bundle.tN "UNASSIGNED_STACK" Bundle.steD A U H ∧ vx_Zq Bundle.tN "SUPPRESSED_SENTINEL" Bundle.listD A U H
theorem jXs.to {A A1 : Nat → Prop} {s U : State} {H H1 : Heap} (h : jXs A s H) (hW : s.WarmedH U.vm) (hk : ∀ a : Nat, a < H.size → ¬ A a → H1[a]? = H[a]?) (hA : ∀ q, A1 q → A q) : jXs A1 U H1 :=
  ⟨fun C hC => va_Nw.warmC hW (h.1 C hC), fun x hx => va_Nw.warmD hW (h.2.1 x hx), fun q hq => by obtain ⟨sa, k⟩ := h.2.2.1 q hq; exact ⟨sa, vk_R.warm hW k⟩, fun q hq => va_Nc.moved hW.alike (h.2.2.2.1 q hq),
   ((vx_Zq.moved hW.alike h.2.2.2.2.1).kept hk).narrow hA, ((vx_Zq.moved hW.alike h.2.2.2.2.2).kept hk).narrow hA⟩
theorem jXs.call {A : Nat → Prop} {s u U : State} {H : Heap} (h : jXs A u H) (hv : u.vm = U.vm) : jXs A U H :=
  ⟨fun C hC => va_Nw.same rfl hv (h.1 C hC), fun x hx => va_Nw.same rfl hv (h.2.1 x hx), fun q hq => by obtain ⟨sa, k⟩ := h.2.2.1 q hq; exact ⟨sa, vk_R.same hv.symm k⟩, fun q hq => va_Nc.moved (by rw [hv]; exact Vm.Alike.refl _) (h.2.2.2.1 q hq),
   vx_Zq.moved (by rw [hv]; exact Vm.Alike.refl _) h.2.2.2.2.1, vx_Zq.moved (by rw [hv]; exact Vm.Alike.refl _) h.2.2.2.2.2⟩
def jXI (D : va_G) (tys : List (ClassId × FieldType)) (wc : va_W) (sz : Nat) (U : State) : Prop := jI D tys wc sz U ∧ jXs (va_A wc sz) U U.heap
/-- where a method has thrown: the class by its name, the world -/
abbrev jXX {S : Type} (D : va_G) (tys : List (ClassId × FieldType)) (px : S × String → Prop) (w1 : S → va_W) (A : Nat → Prop) : String → State → State → Prop := vx_X px (fun E u t => E = u.2 ∧ jO D tys A (w1 u.1) t) A
theorem jx_of {l : Launch} {y : MethodName} {ws ws' : List Cond} {rm : Room} {D : va_G} {tys : List (ClassId × FieldType)} {wc : va_W} {av : List Value} {Qc : (Nat → Prop) → Array Value → State → Outcome → State → Prop} {XC : (Nat → Prop) → String → State → State → Prop} {cc : ByteArray} {maxL : Nat} {ret : Option FieldType} {sz : Nat} {own : String} {nm : String}
    (hy : plainName y.cls = true) (hw : ws = Cond.code y cc maxL ret :: ws') (ho : y.cls = own) (hn : y.name = nm) (hav : (lg_sl av).length ≤ maxL)
    (body : ∀ (p : Program) (e : Env) (s : State) (m : MethodId) (below : List Frame) (meth : Method) (c : Code) (A : Nat → Prop) (ls : Array Slot) (H : Heap) (locs : List Loc), jC p s m meth c cc maxL ret own ws D tys av.toArray A nm → jXs A s s.heap → (∀ x ∈ c.exceptionTable.toList, False) → va_P D vwCl wc H → va_D A wc → va_S A s.heap H locs → lv_has ls maxL (lv_args 0 av) → W p l e rm s m av.toArray below meth c H locs 0 0 (vx_MQ below (Qc A) (XC A) av.toArray s rm.cells rm.slots A) (F0 m 0 ls [])) :
    vx_Met l y ws rm (va_Pc av (jXI D tys wc sz)) (Qc (va_A wc sz)) (XC (va_A wc sz)) rm.cells rm.slots (va_A wc sz) := by
  refine vx_ofW (cc := cc) (maxL := maxL) (ret := ret) hy hw ?_
  intro p e s m args below meth c s₁ B hml ht hv
  obtain ⟨rfl, ⟨hsz, hP, hK, hD0, hN⟩, hXs⟩ := hv
  have hts := atoms_spec (ws := ws) B.pre
  have hown : s.vm.findClass own = some m.cls := by rw [← ho]; exact findClass_of_methodNamed B.named
  have hin : meth.name = nm := by rw [← hn]; exact (name_of_methodNamed B.named B.method).1
  subst hsz
  rw [lg_entry_eq]
  exact body p e s m below meth c _ _ _ _ ⟨B.exec, B.bytes, hml, hown, hts, hK, fun q h => Or.inr h, B.notSynchronized, B.returns, hin, hN⟩ hXs ht hP hD0.self va_S.rf (lv_entry av hav)
section JX1
variable {p : Program} {l : Launch} {e : Env} {R : Room} {s : State} {m : MethodId} {args : Array Value} {below : List Frame} {meth : Method} {c : Code} {H : Heap} {locs : List Loc} {cells slots : Nat} {Q : State → Prop}
variable {cc : ByteArray} {nL : Nat} {own : String} {Ts : List Cond} {D : va_G} {tys : List (ClassId × FieldType)} {A : Nat → Prop} {nm : String} {pc : Nat} {ls : Array Slot} {rest st0 : List Value} {ws wc wr : va_W} {ret : Option FieldType}
theorem jxBlind {av : List Value} {D : va_G} {tys : List (ClassId × FieldType)} {wc : va_W} {sz : Nat} : FrameBlind (va_Pc av (jXI D tys wc sz)) := fun a U g mk q => by
  obtain ⟨q0, ⟨q1, qP, qK, qD, qN⟩, qX⟩ := q
  exact ⟨q0, ⟨q1, qP, va_K.moved (u := U) (U := U.calling g mk a) (Vm.Alike.refl U.vm) qK, qD, jN.same (u := U) (U := U.calling g mk a) rfl qN⟩, jXs.call (s := U) (u := U) (U := U.calling g mk a) qX rfl⟩
theorem jxPreS {av : List Value} (hXs : jXs A s s.heap) (hA : ∀ q, s.heap.size ≤ q → A q) (hS : va_S A s.heap H locs) (hN : jN s) (hK : va_K D vwCl tys s) (hP : va_P D vwCl ws H) (hD : va_D A ws) (isC : List Nat) (hC : isC.filterMap (fun i => ws[i]?) = wc) (hC2 : isC.map (fun i => ws[i]?) = wc.map some) (hnd : va_nd isC = true) : PreS s H (va_Pc av (jXI D tys wc H.size)) av :=
  ⟨jxBlind, fun U hU hW => ⟨rfl, ⟨by rw [hU], by rw [hU]; exact hP.sub isC hC, va_K.moved hW.alike hK, (hD.sub isC hnd hC2).weaken (fun _ _ _ _ => trivial), hN.warm hW⟩, by rw [hU]; exact hXs.to hW hS.2.1 (va_free (wc := wc) hD hS hA isC hC2)⟩⟩
theorem jxPreV {As : List Value} {b ci q0 : Nat} {q : vw_C} {fs : List Value} (hXs : jXs A s s.heap) (hA : ∀ q, s.heap.size ≤ q → A q) (hS : va_S A s.heap H locs) (hN : jN s) (hK : va_K D vwCl tys s) (hP : va_P D vwCl ws H) (hD : va_D A ws) (isC : List Nat) (hC : isC.filterMap (fun i => ws[i]?) = wc) (hC2 : isC.map (fun i => ws[i]?) = wc.map some) (hnd : va_nd isC = true) (hc : vwCl[ci]? = some q) (he : ws[q0]? = some (b, .inr (ci, fs))) : PreV s H q.1 b (va_Pc (.ref b :: As) (jXI D tys wc H.size)) As :=
  ⟨jxBlind, va_recv hK hP hc he, fun U hU hW => ⟨rfl, ⟨by rw [hU], by rw [hU]; exact hP.sub isC hC, va_K.moved hW.alike hK, (hD.sub isC hnd hC2).weaken (fun _ _ _ _ => trivial), hN.warm hW⟩, by rw [hU]; exact hXs.to hW hS.2.1 (va_free (wc := wc) hD hS hA isC hC2)⟩⟩
/-- thrown on to the caller -/
theorem jx_out {S : Type} {Qc : Array Value → State → Outcome → State → Prop} {px : S × String → Prop} {w1 : S → va_W} {mc ms q9 : Nat} {ce : Cell} {E : String} (C : jC p s m meth c cc nL ret own Ts D tys args A nm) (hT : ∀ x ∈ c.exceptionTable.toList, False) (u : S) (hP : va_P D vwCl (w1 u) H) (hD : va_D A (w1 u)) (hS : va_S A s.heap H locs)
    (hce : H[q9]? = some ce) (hcv : ce.vm = .none) (hcl : s.vm.findClass E = some ce.cls) (hp : px (u, E)) (hc : cells ≤ mc) (hs : slots ≤ ms) :
    vx_W p l e R s m args below meth c H locs cells slots (vx_MQ below Qc (jXX D tys px w1 A) args s mc ms A) (F0 m pc ls rest) q9 := by
  obtain ⟨hx, hb, hml, hown, hts, hK, hA, hlocks, hr, hn, hN⟩ := C
  exact vx_out (E := E) (fun x h => (hT x h).elim) hlocks hce hcv hcl (fun t ht hW => ⟨(u, E), hp, ⟨rfl, by rw [ht]; exact hP, va_K.moved hW hK, hD⟩, hS.F ht⟩) hS.2.2 hc hs
/-- new E(text) thrown -/
theorem jx_throw {S : Type} {Qc : Array Value → State → Outcome → State → Prop} {px : S × String → Prop} {w1 : S → va_W} {mc ms ik is ic : Nat} {E text : String} (hfit : Bundle.fit E = true) (hgood : ∀ w ∈ Cond.classLink RX6 ik E :: Cond.initialized E :: vx_atS RX6 ic E jNm, vx_ot w = true)
    (hB : ∀ w ∈ (vx_atS RX6 ic E jNm).filter (fun w => !goodWord w), w ∈ (jCast.map (fun C => Cond.castable C C) ++ jDecl.map Cond.declares))
    (C : jC p s m meth c cc nL ret RX6 Ts D tys args A nm) (hT : ∀ x ∈ c.exceptionTable.toList, False) (hl0 : l.stackTraces = false) (hXs : jXs A s s.heap) (hl : ls.size = nL)
    (hk : (Cond.classLink RX6 ik E).before args s = true) (hini : (Cond.initialized E).before args s = true) (hat : ∀ w ∈ (vx_atS RX6 ic E jNm).filter goodWord, w.before args s = true) (hstr : (is, text) ∈ jStrs)
    (d0 : decode cc pc = .ok (.new ik, 3)) (d3 : decode cc (pc + 3) = .ok (.dup, 1)) (d4 : decode cc (pc + 4) = .ok (.ldc is, 2)) (d6 : decode cc (pc + 6) = .ok (.invokespecial ic, 3)) (d9 : decode cc (pc + 9) = .ok (.athrow, 1))
    (u : S) (hP : va_P D vwCl (w1 u) H) (hD : va_D A (w1 u)) (hS : va_S A s.heap H locs) (hp : px (u, E))
    (hRf : 5 < R.frames) (hRl : 82 ≤ R.locals) (hRc : cells + 1 ≤ R.cells) (hRs : slots + 6 ≤ R.slots) (hc : cells + 1 ≤ mc) (hs : slots + 6 ≤ ms) :
    W p l e R s m args below meth c H locs cells slots (vx_MQ below Qc (jXX D tys px w1 A) args s mc ms A) (F0 m pc ls []) := by
  obtain ⟨hx, hb, hml, hown, hts, hK, hA, hlocks, hr, hn, hN⟩ := C
  obtain ⟨x1, x2, x3, x4, x5, x6⟩ := hXs
  obtain ⟨sa, hsa⟩ := x3 _ hstr
  have hB3 : ∀ w ∈ (jCast.map (fun C => Cond.castable C C) ++ jDecl.map Cond.declares), w.before args s = true := by
    intro w hw
    rcases List.mem_append.mp hw with h | h
    · obtain ⟨C, hC, rfl⟩ := List.mem_map.mp h
      exact va_Nw.use rfl (x1 C hC)
    · obtain ⟨x, hx2, rfl⟩ := List.mem_map.mp h
      exact va_Nw.use rfl (x2 x hx2)
  exact vx_throwS (names := jNm) (text := text) (sa := sa) hx hb hl0 hown hfit (by decide +kernel) hk hini hsa (vx_hat hat hB hB3) hgood x5 x6 hS (hl.trans hml.symm) d0 d3 d4 d6 d9 (fun x h => (hT x h).elim) (by show 2 + 3 < R.frames; omega) (by show 0 + (13 * (2 + 1) + 43) ≤ R.locals; omega) hRc hRs hlocks
    (fun t hW hz hk2 => ⟨(u, E), hp, ⟨rfl, hP.kept (fun k x hx => hk2 x.1 ((hP k x hx).lt)), va_K.moved hW hK, hD⟩, ⟨Nat.le_trans hS.1 hz, fun q h1 h2 => (hk2 q (Nat.lt_of_lt_of_le h1 hS.1)).trans (hS.2.1 q h1 h2)⟩⟩) hS.2.2 hc hs
/-- the same for NoSuchElementException -/
theorem jx_throwN {S : Type} {Qc : Array Value → State → Outcome → State → Prop} {px : S × String → Prop} {w1 : S → va_W} {mc ms ik is : Nat} {text : String} (hgood : ∀ w ∈ Cond.classLink RX6 ik nseN :: Cond.initialized nseN :: nseW, vx_ot w = true)
    (hB : ∀ w ∈ nseW.filter (fun w => !goodWord w), w ∈ (jCast.map (fun C => Cond.castable C C) ++ jDecl.map Cond.declares))
    (C : jC p s m meth c cc nL ret RX6 Ts D tys args A nm) (hT : ∀ x ∈ c.exceptionTable.toList, False) (hl0 : l.stackTraces = false) (hXs : jXs A s s.heap) (hl : ls.size = nL)
    (hk : (Cond.classLink RX6 ik nseN).before args s = true) (hini : (Cond.initialized nseN).before args s = true) (hat : ∀ w ∈ nseW.filter goodWord, w.before args s = true) (hstr : (is, text) ∈ jStrs)
    (d0 : decode cc pc = .ok (.new ik, 3)) (d3 : decode cc (pc + 3) = .ok (.dup, 1)) (d4 : decode cc (pc + 4) = .ok (.ldc is, 2)) (d6 : decode cc (pc + 6) = .ok (.invokespecial 111, 3)) (d9 : decode cc (pc + 9) = .ok (.athrow, 1))
    (u : S) (hP : va_P D vwCl (w1 u) H) (hD : va_D A (w1 u)) (hS : va_S A s.heap H locs) (hp : px (u, nseN))
    (hRf : 5 < R.frames) (hRl : 82 ≤ R.locals) (hRc : cells + 1 ≤ R.cells) (hRs : slots + 6 ≤ R.slots) (hc : cells + 1 ≤ mc) (hs : slots + 6 ≤ ms) :
    W p l e R s m args below meth c H locs cells slots (vx_MQ below Qc (jXX D tys px w1 A) args s mc ms A) (F0 m pc ls []) := by
  obtain ⟨hx, hb, hml, hown, hts, hK, hA, hlocks, hr, hn, hN⟩ := C
  obtain ⟨x1, x2, x3, x4, x5, x6⟩ := hXs
  obtain ⟨sa, hsa⟩ := x3 _ hstr
  have hB3 : ∀ w ∈ (jCast.map (fun C => Cond.castable C C) ++ jDecl.map Cond.declares), w.before args s = true := by
    intro w hw
    rcases List.mem_append.mp hw with h | h
    · obtain ⟨C, hC, rfl⟩ := List.mem_map.mp h
      exact va_Nw.use rfl (x1 C hC)
    · obtain ⟨x, hx2, rfl⟩ := List.mem_map.mp h
      exact va_Nw.use rfl (x2 x hx2)
  exact nse_throw (text := text) (sa := sa) hx hb hl0 hown hk hini hsa (vx_hat hat hB hB3) hgood x5 x6 hS (hl.trans hml.symm) d0 d3 d4 d6 d9 (fun x h => (hT x h).elim) hRf (by show 0 + 82 ≤ R.locals; omega) hRc hRs hlocks
    (fun t hW hz hk2 => ⟨(u, nseN), hp, ⟨rfl, hP.kept (fun k x hx => hk2 x.1 ((hP k x hx).lt)), va_K.moved hW hK, hD⟩, ⟨Nat.le_trans hS.1 hz, fun q h1 h2 => (hk2 q (Nat.lt_of_lt_of_le h1 hS.1)).trans (hS.2.1 q h1 h2)⟩⟩) hS.2.2 hc hs
/-- behind a call that may throw -/
theorem jx_callv {S SX : Type} {post : S → Prop} {w1 : S → va_W} {px : SX × String → Prop} {wx : SX → va_W} {mc ms : Nat} {a : Array Value} (hr : vx_Run p l e R s m args below meth c H locs cells slots mc ms (F0 m pc ls st0) rest (va_Qv post (fun u t => jO D tys (va_A wc H.size) (w1 u) t) (va_A wc H.size) a) (jXX D tys px wx (va_A wc H.size)) (va_A wc H.size)) (hA : ∀ q, s.heap.size ≤ q → A q) (hP : va_P D vwCl ws H) (hD : va_D A ws) (hS : va_S A s.heap H locs)
    (isC isR : List Nat) (hC : isC.map (fun i => ws[i]?) = wc.map some) (hR : isR.map (fun i => ws[i]?) = wr.map some) (hn : va_nd isR = true) (hdis : ∀ i ∈ isR, i ∉ isC)
    (kx : ∀ (u : SX) (E : String) (q9 : Nat) (ce : Cell) (H1 : Heap) (locs1 : List Loc), px (u, E) → H1[q9]? = some ce → ce.vm = .none → s.vm.findClass E = some ce.cls → va_P D vwCl (wr ++ wx u) H1 → va_D A (wr ++ wx u) → va_S A s.heap H1 locs1 → vx_W p l e R s m args below meth c H1 locs1 (cells + mc) (slots + ms) Q (F0 m pc ls rest) q9)
    (kk : ∀ (u : S) (H1 : Heap) (locs1 : List Loc), post u → va_P D vwCl (wr ++ w1 u) H1 → va_D A (wr ++ w1 u) → va_S A s.heap H1 locs1 → W p l e R s m args below meth c H1 locs1 (cells + mc) (slots + ms) Q (F0 m (pc + 3) ls rest)) : W p l e R s m args below meth c H locs cells slots Q (F0 m pc ls st0) := by
  have hF := va_free (wc := wc) hD hS hA isC hC
  refine vx_callv hr hS (fun q _ h => hF q h) hF (fun q _ h => hF q h) (fun E ce q9 u t H1 locs1 ht hvm hw hB hz1 hk1 hS1 hce hcv hcl => ?_) (fun u t H1 locs1 ht hvm hw hB hz1 hk1 hS1 => ?_)
  · obtain ⟨u, E9⟩ := u
    obtain ⟨e9, hP1, hK1, hD1⟩ := hB
    have e9 : E = E9 := e9
    subst e9
    rw [ht] at hP1
    obtain ⟨hP2, hD2⟩ := va_join (wr := wr) (w1 := wx u) hP hD isC isR hC hR hn hdis hk1 hF hP1 hD1
    exact kx u E q9 ce H1 locs1 hw hce hcv hcl hP2 hD2 hS1
  · obtain ⟨hP1, hK1, hD1⟩ := hB
    rw [ht] at hP1
    obtain ⟨hP2, hD2⟩ := va_join (wr := wr) (w1 := w1 u) hP hD isC isR hC hR hn hdis hk1 hF hP1 hD1
    exact kk u H1 locs1 hw hP2 hD2 hS1
theorem jx_calli {S SX : Type} {post : Int32 → S → Prop} {w1 : S → va_W} {px : SX × String → Prop} {wx : SX → va_W} {mc ms : Nat} {a : Array Value} (hr : vx_Run p l e R s m args below meth c H locs cells slots mc ms (F0 m pc ls st0) rest (va_Qi post (fun u t => jO D tys (va_A wc H.size) (w1 u) t) (va_A wc H.size) a) (jXX D tys px wx (va_A wc H.size)) (va_A wc H.size)) (hA : ∀ q, s.heap.size ≤ q → A q) (hP : va_P D vwCl ws H) (hD : va_D A ws) (hS : va_S A s.heap H locs)
    (isC isR : List Nat) (hC : isC.map (fun i => ws[i]?) = wc.map some) (hR : isR.map (fun i => ws[i]?) = wr.map some) (hn : va_nd isR = true) (hdis : ∀ i ∈ isR, i ∉ isC)
    (kx : ∀ (u : SX) (E : String) (q9 : Nat) (ce : Cell) (H1 : Heap) (locs1 : List Loc), px (u, E) → H1[q9]? = some ce → ce.vm = .none → s.vm.findClass E = some ce.cls → va_P D vwCl (wr ++ wx u) H1 → va_D A (wr ++ wx u) → va_S A s.heap H1 locs1 → vx_W p l e R s m args below meth c H1 locs1 (cells + mc) (slots + ms) Q (F0 m pc ls rest) q9)
    (kk : ∀ (r : Int32) (u : S) (H1 : Heap) (locs1 : List Loc), post r u → va_P D vwCl (wr ++ w1 u) H1 → va_D A (wr ++ w1 u) → va_S A s.heap H1 locs1 → W p l e R s m args below meth c H1 locs1 (cells + mc) (slots + ms) Q (F0 m (pc + 3) ls (.int r :: rest))) : W p l e R s m args below meth c H locs cells slots Q (F0 m pc ls st0) := by
  have hF := va_free (wc := wc) hD hS hA isC hC
  refine vx_calli hr hS (fun q _ h => hF q h) hF (fun q _ h => hF q h) (fun E ce q9 u t H1 locs1 ht hvm hw hB hz1 hk1 hS1 hce hcv hcl => ?_) (fun r u t H1 locs1 ht hvm hw hB hz1 hk1 hS1 => ?_)
  · obtain ⟨u, E9⟩ := u
    obtain ⟨e9, hP1, hK1, hD1⟩ := hB
    have e9 : E = E9 := e9
    subst e9
    rw [ht] at hP1
    obtain ⟨hP2, hD2⟩ := va_join (wr := wr) (w1 := wx u) hP hD isC isR hC hR hn hdis hk1 hF hP1 hD1
    exact kx u E q9 ce H1 locs1 hw hce hcv hcl hP2 hD2 hS1
  · obtain ⟨hP1, hK1, hD1⟩ := hB
    rw [ht] at hP1
    obtain ⟨hP2, hD2⟩ := va_join (wr := wr) (w1 := w1 u) hP hD isC isR hC hR hn hdis hk1 hF hP1 hD1
    exact kk r u H1 locs1 hw hP2 hD2 hS1
end JX1
theorem jgISE : ∀ w ∈ Cond.classLink RX6 55 "java/lang/IllegalStateException" :: Cond.initialized "java/lang/IllegalStateException" :: vx_atS RX6 59 "java/lang/IllegalStateException" jNm, vx_ot w = true := by decide +kernel
theorem jgIOB : ∀ w ∈ Cond.classLink RX6 179 "java/lang/IndexOutOfBoundsException" :: Cond.initialized "java/lang/IndexOutOfBoundsException" :: vx_atS RX6 183 "java/lang/IndexOutOfBoundsException" jNm, vx_ot w = true := by decide +kernel
theorem jgNSE : ∀ w ∈ Cond.classLink RX6 107 "java/util/NoSuchElementException" :: Cond.initialized "java/util/NoSuchElementException" :: nseW, vx_ot w = true := by decide +kernel
theorem jbISE : ∀ w ∈ (vx_atS RX6 59 "java/lang/IllegalStateException" jNm).filter (fun w => !goodWord w), w ∈ (jCast.map (fun C => Cond.castable C C) ++ jDecl.map Cond.declares) := by decide +kernel
theorem jbIOB : ∀ w ∈ (vx_atS RX6 183 "java/lang/IndexOutOfBoundsException" jNm).filter (fun w => !goodWord w), w ∈ (jCast.map (fun C => Cond.castable C C) ++ jDecl.map Cond.declares) := by decide +kernel
theorem jbNSE : ∀ w ∈ (nseW).filter (fun w => !goodWord w), w ∈ (jCast.map (fun C => Cond.castable C C) ++ jDecl.map Cond.declares) := by decide +kernel
/-- a node's number, if it is one -/
def ix (n : Nat) (x : Int32) : Option Nat := if 0 ≤ x ∧ x < nI n then some x.toNatClampNeg else none
theorem ix_some {n k : Nat} {x : Int32} (hn : n < 2 ^ 31) (h : ix n x = some k) : x = nI k ∧ k < n := by
  unfold ix at h
  by_cases q : 0 ≤ x ∧ x < nI n
  · rw [if_pos q] at h
    cases h
    have h1 : (0 : Int) ≤ x.toInt := by
      have := Int32.le_iff_toInt_le.mp q.1
      simpa using this
    have h2 : x.toInt < (n : Int) := by
      have := Int32.lt_iff_toInt_lt.mp q.2
      rwa [nI_toInt hn] at this
    have h3 : (x.toNatClampNeg : Int) = x.toInt := by
      show (x.toInt.toNat : Int) = x.toInt
      exact Int.toNat_of_nonneg h1
    have h4 : x.toNatClampNeg < n := by omega
    refine ⟨?_, h4⟩
    apply Int32.toInt_inj.mp
    rw [nI_toInt (by omega), h3]
  · rw [if_neg q] at h; cases h
theorem ix_of {n k : Nat} {x : Int32} (hn : n < 2 ^ 31) (hk : k < n) (h : x = nI k) : ix n x = some k := by
  subst h
  unfold ix
  have hk2 : k < 2 ^ 31 := by omega
  have h1 : (nI k).toNatClampNeg = k := nI_clamp hk2
  rw [if_pos ⟨by rw [← nI_0, cv_le (by decide) hk2]; exact Nat.zero_le _, by rw [cv_lt hk2 hn]; exact hk⟩, h1]
theorem ix_neg {n : Nat} {x : Int32} (h : x < 0) : ix n x = none := by
  unfold ix
  rw [if_neg]
  intro q
  have h1 := Int32.le_iff_toInt_le.mp q.1
  have h2 := Int32.lt_iff_toInt_lt.mp h
  omega
theorem ix_big {n : Nat} {x : Int32} (h : nI n ≤ x) : ix n x = none := by
  unfold ix
  rw [if_neg]
  intro q
  have h1 := Int32.le_iff_toInt_le.mp h
  have h2 := Int32.lt_iff_toInt_lt.mp q.2
  omega
theorem ix_in {n : Nat} {x : Int32} (h1 : ¬ x < 0) (h2 : ¬ nI n ≤ x) : ∃ k, ix n x = some k := by
  unfold ix
  rw [if_pos]
  · exact ⟨_, rfl⟩
  · constructor
    · rw [Int32.le_iff_toInt_le]
      rw [Int32.lt_iff_toInt_lt] at h1
      omega
    · rw [Int32.le_iff_toInt_le] at h2
      rw [Int32.lt_iff_toInt_lt]
      omega
