/-! methods with a table of handlers that return: the law's own helpers -/
theorem jh_of {l : Launch} {y : MethodName} {ws ws' : List Cond} {rm : Room} {D : va_G} {tys : List (ClassId × FieldType)} {wc : va_W} {av : List Value} {Qc : (Nat → Prop) → Array Value → State → Outcome → State → Prop} {cc : ByteArray} {maxL : Nat} {ret : Option FieldType} {sz : Nat} {own : String} {nm : String} {hh : List (Nat × Nat × Nat × Nat)}
    (hy : plainName y.cls = true) (hw : ws = Cond.codeWith y cc maxL ret hh :: ws') (ho : y.cls = own) (hn : y.name = nm) (hav : (lg_sl av).length ≤ maxL)
    (body : ∀ (p : Program) (e : Env) (s : State) (m : MethodId) (below : List Frame) (meth : Method) (c : Code) (A : Nat → Prop) (ls : Array Slot) (H : Heap) (locs : List Loc), jC p s m meth c cc maxL ret own ws D tys av.toArray A nm → jXs A s s.heap → c.exceptionTable.toList = tableOf hh → va_P D vwCl wc H → va_D A wc → va_S A s.heap H locs → lv_has ls maxL (lv_args 0 av) → W p l e rm s m av.toArray below meth c H locs 0 0 (MQ below (Qc A) av.toArray s rm.cells rm.slots A) (F0 m 0 ls [])) :
    Met l y ws rm (va_Pc av (jXI D tys wc sz)) (Qc (va_A wc sz)) rm.cells rm.slots (va_A wc sz) := by
  refine MetFree.of_bodyS (code := cc) (maxLocals := maxL) (ret := ret) hy ?_ ?_
  · intro args s m h hn
    obtain ⟨m9, meth, c, hn9, h1, h2, h3, h4, -, h5, h6, -⟩ := Cond.codeWith_spec (atoms_spec (ws := ws) h _ (by rw [hw]; exact List.mem_cons_self))
    cases hn.symm.trans hn9
    exact ⟨meth, c, h1, h2, h3, h4, h5, h6⟩
  · intro p e s m args below meth c s₁ B hml hv _
    have hh0 : s₁.heap = s.heap := by rw [B.state]; rfl
    have htab : c.exceptionTable.toList = tableOf hh := vx_table (x := y) B (atoms_spec (ws := ws) B.pre _ (by rw [hw]; exact List.mem_cons_self))
    have hts := atoms_spec (ws := ws) B.pre
    have K : W p l e rm s m args below meth c s.heap [] 0 0 (MQ below (Qc (va_A wc sz)) args s rm.cells rm.slots (va_A wc sz)) (entryFrame m args maxL) := by
      obtain ⟨rfl, ⟨hsz, hP, hK, hD0, hN⟩, hXs⟩ := hv
      have hown : s.vm.findClass own = some m.cls := by rw [← ho]; exact findClass_of_methodNamed B.named
      have hin : meth.name = nm := by rw [← hn]; exact (name_of_methodNamed B.named B.method).1
      subst hsz
      rw [lg_entry_eq]
      exact body p e s m below meth c _ _ _ _ ⟨B.exec, B.bytes, hml, hown, hts, hK, fun q h => Or.inr h, B.notSynchronized, B.returns, hin, hN⟩ hXs htab hP hD0.self va_S.rf (lv_entry av hav)
    obtain ⟨t, a1, o, b1, b2, b3⟩ := K s₁ hh0 (Stand.of_body B)
    exact ⟨t, o, a1, b1, b2, b3⟩
section JH
variable {p : Program} {l : Launch} {e : Env} {R : Room} {s : State} {m : MethodId} {args : Array Value} {below : List Frame} {meth : Method} {c : Code} {H : Heap} {locs : List Loc} {cells slots : Nat} {Q : State → Prop}
variable {pc : Nat} {ls : Array Slot} {rest : List Value}
theorem jh_catch0 {own E : String} {h0 : Nat × Nat × Nat × Nat} {hr : List (Nat × Nat × Nat × Nat)} {ce : Cell} {q9 : Nat} (hown : s.vm.findClass own = some m.cls) (hTab : c.exceptionTable.toList = tableOf (h0 :: hr)) (hcov : covers ⟨h0.1, h0.2.1, h0.2.2.1, h0.2.2.2⟩ pc = true) (hne : h0.2.2.2 ≠ 0)
    (hlink : (Cond.classLink own h0.2.2.2 E).before args s = true) (hcast : va_Nw (.castable E E) s) (hce : H[q9]? = some ce) (hcv : ce.vm = .none) (hcl : s.vm.findClass E = some ce.cls)
    (kk : W p l e R s m args below meth c H locs cells slots Q (F0 m h0.2.2.1 ls [.ref q9])) : vx_W p l e R s m args below meth c H locs cells slots Q (F0 m pc ls rest) q9 :=
  vx_catch (E := E) (name := E) hown [] ⟨h0.1, h0.2.1, h0.2.2.1, h0.2.2.2⟩ (tableOf hr) (hTab.trans rfl) (fun z h => by cases h) hcov hne hlink (va_Nw.use rfl hcast) hce hcv hcl kk
theorem jh_catch1 {own E n0 : String} {h0 h1 : Nat × Nat × Nat × Nat} {hr : List (Nat × Nat × Nat × Nat)} {ce : Cell} {q9 : Nat} (hown : s.vm.findClass own = some m.cls) (hTab : c.exceptionTable.toList = tableOf (h0 :: h1 :: hr)) (hcov : covers ⟨h1.1, h1.2.1, h1.2.2.1, h1.2.2.2⟩ pc = true) (hne : h1.2.2.2 ≠ 0) (hn0 : h0.2.2.2 ≠ 0)
    (hl0 : (Cond.classLink own h0.2.2.2 n0).before args s = true) (hnc : va_Nc E n0 s)
    (hlink : (Cond.classLink own h1.2.2.2 E).before args s = true) (hcast : va_Nw (.castable E E) s) (hce : H[q9]? = some ce) (hcv : ce.vm = .none) (hcl : s.vm.findClass E = some ce.cls)
    (kk : W p l e R s m args below meth c H locs cells slots Q (F0 m h1.2.2.1 ls [.ref q9])) : vx_W p l e R s m args below meth c H locs cells slots Q (F0 m pc ls rest) q9 :=
  vx_catch (E := E) (name := E) hown [⟨h0.1, h0.2.1, h0.2.2.1, h0.2.2.2⟩] ⟨h1.1, h1.2.1, h1.2.2.1, h1.2.2.2⟩ (tableOf hr) (hTab.trans rfl) (fun z h => by
    rcases List.mem_cons.mp h with e9 | e9
    · subst e9; exact Or.inr ⟨hn0, n0, hl0, hnc⟩
    · cases e9) hcov hne hlink (va_Nw.use rfl hcast) hce hcv hcl kk
end JH
def b2n (b : Bool) : Nat := if b then 1 else 0
