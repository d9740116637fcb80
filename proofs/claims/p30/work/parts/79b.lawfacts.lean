/-! the law: what the tables and the start give -/
theorem law_nests : ∀ q ∈ jNests, Cond.methodLinkNest q.1 q.2.1 q.2.2 "Phasehall" ∈ lw_tbl := by decide +kernel
theorem law_casts : ∀ C ∈ jCast, Cond.castable C C ∈ lw_tbl := by decide +kernel
theorem law_decls : ∀ x ∈ jDecl, Cond.declares x ∈ lw_tbl := by decide +kernel
theorem law_strs : ∀ q ∈ jStrs, Cond.stringRef RX6 q.1 q.2 ∈ lw_tbl := by decide +kernel
theorem law_nots : ∀ q ∈ jNcs, Cond.not (.castable q.1 q.2) ∈ flatC (Cond.and given_1 narrow_1) := by decide +kernel
theorem law_us : Cond.isRef (.static Bundle.tN "UNASSIGNED_STACK" Bundle.steD) ∈ flatC (Cond.and given_1 narrow_1) := by decide +kernel
theorem law_ss : Cond.isRef (.static Bundle.tN "SUPPRESSED_SENTINEL" Bundle.listD) ∈ flatC (Cond.and given_1 narrow_1) := by decide +kernel
theorem law_lus : Cond.laysStatic Bundle.tN "UNASSIGNED_STACK" Bundle.steD ∈ lw_tbl := by decide +kernel
theorem law_lss : Cond.laysStatic Bundle.tN "SUPPRESSED_SENTINEL" Bundle.listD ∈ lw_tbl := by decide +kernel
theorem law_ini : Cond.initialized Bundle.tN ∈ lw_tbl := by decide +kernel
theorem law_arrs : Cond.arrayClass .int ∈ lw_tbl ∧ Cond.arrayClass .long ∈ lw_tbl := by decide +kernel
theorem law_insts : Cond.instantiable RX0 5 ∈ lw_tbl ∧ Cond.instantiable RX1 5 ∈ lw_tbl ∧ Cond.instantiable RX2 3 ∈ lw_tbl ∧ Cond.instantiable RX3 1 ∈ lw_tbl ∧ Cond.instantiable RX4 7 ∈ lw_tbl ∧ Cond.instantiable RX5 3 ∈ lw_tbl ∧ Cond.instantiable RX6 6 ∈ lw_tbl := by decide +kernel
theorem law_arr {args : Array Value} {s : State} {ty : FieldType} (h : (Cond.arrayClass ty).before args s = true) : ∃ cA, s.vm.findClass ("[" ++ ty.toString) = some cA ∧ ArrOfT s cA ty := by
  obtain ⟨cA, kA, comp, h1, h2, h3⟩ := Cond.arrayClass_spec (show (Cond.arrayClass ty).holds args s none s [] = true from h)
  exact ⟨cA, h1, fun n z => ⟨fun k h => (by cases h), kA, h2, comp, h3⟩⟩
set_option maxRecDepth 20000 in
theorem law_facts {p : Program} {s : State} {m : MethodId} {meth : Method} {c : Code} {b : Nat} (hx : p.tables.exec = Jvm.exec) (hb : c.code = cL_law) (hr : meth.sig.returnType = some .boolean) (hml : c.maxLocals = 18) (hown : s.vm.findClass RL = some m.cls) (hts : ∀ w ∈ lw_tbl, w.before #[Value.ref b] s = true) (hlocks : meth.locks = false) (hgv : (Jvm.Cond.and given_1 narrow_1).before #[Value.ref b] s = true) :
    ∃ (D : va_G) (aI aJ : ClassId), jC p s m meth c cL_law 18 (some .boolean) RL wsL_law D (jT aI aJ aI) #[Value.ref b] (fun q => s.heap.size ≤ q) meth.name ∧ jXs (fun q => s.heap.size ≤ q) s s.heap := by
  have hfl := flat_of_before _ hgv
  obtain ⟨i0, i1, i2, i3, i4, i5, i6⟩ := law_insts
  obtain ⟨c0, s0, k0⟩ := u_known (C := RX0) (T := TX0) (N := 5) (n := 5) hts inX0 (hts _ i0)
  obtain ⟨c1, s1, k1⟩ := u_known (C := RX1) (T := TX1) (N := 5) (n := 5) hts inX1 (hts _ i1)
  obtain ⟨c2, s2, k2⟩ := u_known (C := RX2) (T := TX2) (N := 3) (n := 3) hts inX2 (hts _ i2)
  obtain ⟨c3, s3, k3⟩ := u_known (C := RX3) (T := TX3) (N := 1) (n := 1) hts inX3 (hts _ i3)
  obtain ⟨c4, s4, k4⟩ := u_known (C := RX4) (T := TX4) (N := 7) (n := 7) hts inX4 (hts _ i4)
  obtain ⟨c5, s5, k5⟩ := u_known (C := RX5) (T := TX5) (N := 3) (n := 3) hts inX5 (hts _ i5)
  obtain ⟨c6, s6, k6⟩ := u_known (C := RX6) (T := TX6) (N := 6) (n := 6) hts inX6 (hts _ i6)
  obtain ⟨D, hD⟩ : ∃ D : va_G, ∀ (k : Nat) (q : vw_C), vwCl[k]? = some q → u_Kn s q.1 q.2.1 q.2.2 (D.1 k) (D.2 k) := by
    refine ⟨(fun k => [c0, c1, c2, c3, c4, c5, c6].getD k c0, fun k => [s0, s1, s2, s3, s4, s5, s6].getD k s0), ?_⟩
    intro k q hq
    match k, hq with
    | 0, hq => cases hq; exact k0
    | 1, hq => cases hq; exact k1
    | 2, hq => cases hq; exact k2
    | 3, hq => cases hq; exact k3
    | 4, hq => cases hq; exact k4
    | 5, hq => cases hq; exact k5
    | 6, hq => cases hq; exact k6
    | k + 7, hq => simp at hq
  obtain ⟨a1, a2⟩ := law_arrs
  obtain ⟨aI, n1, r1⟩ := law_arr (hts _ a1)
  obtain ⟨aJ, n2, r2⟩ := law_arr (hts _ a2)
  have hK : va_K D vwCl (jT aI aJ aI) s := by
    refine ⟨hD, fun k q hk => ?_⟩
    match k, hk with
    | 0, hk => cases hk; exact ⟨r1, n1⟩
    | 1, hk => cases hk; exact ⟨r2, n2⟩
    | k + 2, hk => simp at hk
  have hA : ∀ a : Nat, a < s.heap.size → ¬ s.heap.size ≤ a := fun a h => Nat.not_le.mpr h
  have hcl6 : s.vm.findClass RX6 = some c6 := k6.2.1
  refine ⟨D, aI, aJ, ⟨hx, hb, hml, hown, fun w h => hts w (wsL_law_in w h), hK, fun q h => h, hlocks, hr, rfl, fun q hq => va_Nw.of rfl (hts _ (law_nests q hq))⟩,
    fun C hC => va_Nw.of rfl (hts _ (law_casts C hC)), fun x hx => va_Nw.of rfl (hts _ (law_decls x hx)), fun q hq => ?_, fun q hq => va_Nc.of (hfl _ (law_nots q hq)), vx_Zqof (hts _ law_lus) (hts _ law_ini) (hfl _ law_us) hA, vx_Zqof (hts _ law_lss) (hts _ law_ini) (hfl _ law_ss) hA⟩
  have h := hts _ (law_strs q hq)
  obtain ⟨k9, cf, i9, a9, -, -, -, -, -, h9⟩ := Cond.stringRef_spec hcl6 (show (Cond.stringRef RX6 q.1 q.2).holds #[Value.ref b] s none s [] = true from h)
  exact ⟨a9, vk_R.of h h9⟩
