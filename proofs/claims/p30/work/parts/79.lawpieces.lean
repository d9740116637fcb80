/-! the law: its pieces -/
theorem c_L_drawn (l : Launch) (b L : Nat) (xs : Nat → Int32) (k : Nat) (hk : k < 2 ^ 30) (hL : L < 2 ^ 30) (z0 : Nat) : Met l yL_drawn wsL_drawn ({ frames := 0, cells := 0, slots := 0, locals := 0 }) (va_Pc [.ref b, .int (nI k)] (fun U => U.heap.size = z0 ∧ va_X b L xs U U.heap ∧ b < z0)) (va_Qi (S := Unit) (fun r _ => ∃ n, n < 2 ^ 31 ∧ r = nI n) (fun _ _ => True) (fun q => z0 ≤ q)) 0 0 (fun q => z0 ≤ q) := by
  refine Met.ofW (cc := cL_drawn) (maxL := 2) (ret := some .int) (by decide +kernel) rfl ?_
  intro p e s m args below meth c s₁ B hml hv
  obtain ⟨rfl, hsz, hX, hbl⟩ := hv
  have hts := atoms_spec (ws := wsL_drawn) B.pre
  have hown : s.vm.findClass RL = some m.cls := findClass_of_methodNamed B.named
  have hx := B.exec
  have hb := B.bytes
  have hr := B.returns
  subst hsz
  rw [lg_entry_eq]
  have hl := lv_entry [.ref b, .int (nI k)] (n := 2) (Nat.le_of_ble_eq_true rfl)
  have hS : va_S (fun q => s.heap.size ≤ q) s.heap s.heap [] := va_S.rf
  have hbA : ¬ (fun q : Nat => s.heap.size ≤ q) b := Nat.not_le.mpr hbl
  have hl : lv_has _ 2 [(0, .ref b), (1, .int (nI k))] := hl
  have fin : ∀ (v : Int32) (ls : Array Slot), W p l e (headSpec wsL_drawn { frames := 0, cells := 0, slots := 0, locals := 0 }).room s m ([.ref b, .int (nI k)] : List Value).toArray below meth c s.heap [] 0 0 (MQ below (va_Qi (S := Unit) (fun r _ => ∃ n, n < 2 ^ 31 ∧ r = nI n) (fun _ _ => True) (fun q => s.heap.size ≤ q)) ([.ref b, .int (nI k)] : List Value).toArray s 0 0 (fun q => s.heap.size ≤ q)) (F0 m 22 ls [.int v]) := by
    intro v ls
    have L_74 := hts (.constant RL 74 (2147483647)) (List.mem_of_getElem? (i := 2) rfl)
    refine lv_ldc (v := (2147483647)) hx hb hown L_74 dL_drawn_22 ?_
    refine lv_iand hx hb dL_drawn_24 ?_
    refine j_topi (pk_and v 31 (by decide)) ?_
    exact W.iret hx hb hr (fun t ht hW => ⟨⟨_, (), rfl, ⟨v.toBitVec.toNat % 2 ^ 31, Nat.mod_lt _ (by decide), rfl⟩, trivial⟩, hS.F ht⟩) hS.2.2 dL_drawn_25
  refine lv_iload_n hx hb dL_drawn_0 rfl (lv_at hl 1 rfl) ?_
  refine lv_aload_n hx hb dL_drawn_1 rfl (lv_at hl 0 rfl) ?_
  refine va_slen hx hb hX hbl hbA hS dL_drawn_2 ?_
  refine lv_icmp_ge (tgt := 12) hx hb dL_drawn_3 (by decide) (fun c_3 => ?_) (fun c_3 => ?_)
  · have L_73 := hts (.constant RL 73 (15521657)) (List.mem_of_getElem? (i := 1) rfl)
    refine lv_ldc (v := (15521657)) hx hb hown L_73 dL_drawn_12 ?_
    refine lv_iload_n hx hb dL_drawn_14 rfl (lv_at hl 1 rfl) ?_
    refine lv_iconst (v := nI 3) hx hb dL_drawn_15 (by decide) ?_
    refine lv_iadd hx hb dL_drawn_16 ?_
    refine lv_imul hx hb dL_drawn_17 ?_
    refine lv_sipush (v := nI 13367) hx hb dL_drawn_18 (by decide) ?_
    refine lv_iadd hx hb dL_drawn_21 ?_
    exact fin _ _
  · have hlt : k < L := by
      refine Nat.not_le.mp (fun q => c_3 ?_)
      exact nI_le q (by omega)
    refine lv_aload_n hx hb dL_drawn_6 rfl (lv_at hl 0 rfl) ?_
    refine lv_iload_n hx hb dL_drawn_7 rfl (lv_at hl 1 rfl) ?_
    refine va_sld hx hb hX hbl hbA hS (vp_in_nI hlt (by omega)) dL_drawn_8 ?_
    refine lv_goto (tgt := 22) hx hb dL_drawn_9 (by decide) ?_
    exact fin _ _
theorem j_drawn {p : Program} {e : Env} {R : Room} {s : State} {m : MethodId} {args : Array Value} {below : List Frame} {meth : Method} {c : Code} {Q : State → Prop} {D : va_G} {tys : List (ClassId × FieldType)} {A : Nat → Prop} {nm : String} {H : Heap} {locs : List Loc} {cells slots pc : Nat} {ls : Array Slot} {rest : List Value} {b L k : Nat} {xs : Nat → Int32} {ws : va_W} (l : Launch) (C : jC p s m meth c cL_law 18 (some .boolean) RL wsL_law D tys args A nm) (hRf : 24 ≤ R.frames) (hRl : 700 ≤ R.locals) (hX : va_X b L xs s s.heap) (hbl : b < s.heap.size) (hbA : ¬ A b) (hk : k < 2 ^ 30) (hL : L < 2 ^ 30) (hP : va_P D vwCl ws H) (hS : va_S A s.heap H locs) (hl1 : ls.size = 18) (hdg : decode cL_law pc = .ok (.invokestatic 158, 3)) (hst : (rest.map fun v => v.category).sum ≤ 8) (hf : cells + 0 ≤ R.cells ∧ slots + 0 ≤ R.slots)
    (kk : ∀ (n : Nat) (H1 : Heap) (locs1 : List Loc), n < 2 ^ 31 → va_P D vwCl ws H1 → va_S A s.heap H1 locs1 → W p l e R s m args below meth c H1 locs1 cells slots Q (F0 m (pc + 3) ls (.int (nI n) :: rest))) : W p l e R s m args below meth c H locs cells slots Q (F0 m pc ls (.int (nI k) :: .ref b :: rest)) := by
  obtain ⟨hx, hb, hml, hown, hts, hK, hA, hlocks, hr, hn, hN⟩ := id C
  have hb1 : b < H.size := Nat.lt_of_lt_of_le hbl hS.1
  have hpre : PreS s H (va_Pc [.ref b, .int (nI k)] (fun U => U.heap.size = H.size ∧ va_X b L xs U U.heap ∧ b < H.size)) [.ref b, .int (nI k)] :=
    ⟨fun a U g mk q => ⟨q.1, q.2.1, va_X.moved (u := U) (U := U.calling g mk a) (Vm.Alike.refl U.vm) q.2.2.1, q.2.2.2⟩, fun U hU hW => ⟨rfl, by rw [hU], by rw [hU]; exact (hX.moved hW.alike).kept (hS.2.1 b hbl hbA), hb1⟩⟩
  refine va_calli (A1 := fun q => H.size ≤ q) (va_runS (As := [.ref b, .int (nI k)]) (rest := rest) C.fix (c_L_drawn l b L xs k hk hL H.size) (va_cwS 2 hts gL_law_L_drawn rfl rfl rfl (by decide +kernel) ⟨Nat.le_trans (m := 24) (Nat.le_of_ble_eq_true rfl) hRf, Nat.le_trans (m := 700) (Nat.le_of_ble_eq_true rfl) hRl⟩) hpre rfl rfl hl1 rfl (lv_room hst) hdg hf) hS (fun q h1 h2 => absurd h1 (Nat.not_lt.mpr h2)) (fun q h => hA q (Nat.le_trans hS.1 h)) (fun r u t H1 locs1 ht hvm hw hB hz1 hk1 hS1 => ?_)
  obtain ⟨n, hn1, rfl⟩ := hw
  exact kk n H1 locs1 hn1 (hP.kept (fun z q hq => hk1 q.1 (hP z q hq).lt (Nat.not_le.mpr (hP z q hq).lt))) hS1
section LWS
variable {p : Program} {e : Env} {R : Room} {s : State} {m : MethodId} {args : Array Value} {below : List Frame} {meth : Method} {c : Code} {Q : State → Prop} {D : va_G} {aI aJ aZ : ClassId} {A : Nat → Prop} {nm : String} {H : Heap} {locs : List Loc} {cells slots : Nat} {ls : Array Slot} {h g : Nat → Nat} {st tt : St} {j jt : Jk} {F : Nat → Int32} {b L fa x k wd th i jj i0 j0 : Nat} {xs : Nat → Int32}
set_option maxHeartbeats 4000000 in
set_option maxRecDepth 100000 in
theorem la_A  (l : Launch) (hl0 : l.stackTraces = false) (hRf : 24 ≤ R.frames) (hRl : 700 ≤ R.locals) (C : jC p s m meth c cL_law 18 (some .boolean) RL wsL_law D (jT aI aJ aZ) args A nm) (hXs : jXs A s s.heap) (u : TU st tt) (hz : ∀ z, sNl st ≤ z → F z = 0) (hX : va_X b L xs s s.heap) (hbl : b < s.heap.size) (hbA : ¬ A b) (hL : L < 2 ^ 30) (hth : th ≤ 60) (hk60 : k ≤ 60) (hP : va_P D vwCl (HC aI aJ h st j ++ (HC aI aJ g tt jt ++ ([(fa, .inl (aI, 12, .inl F))]))) H) (hD : va_D A (HC aI aJ h st j ++ (HC aI aJ g tt jt ++ ([(fa, .inl (aI, 12, .inl F))])))) (hS : va_S A s.heap H locs) (hl : lv_has ls 18 [(0, .ref b), (1, .ref (h 0)), (2, .ref (g 0)), (3, .ref fa), (4, .int (nI th)), (5, .int (nI wd)), (6, .int (nI 1)), (7, .int (nI k))]) (hRc : cells + 79 ≤ R.cells) (hRs : slots + 474 ≤ R.slots) (kx : ∀ (j jt : Jk) (H : Heap) (locs : List Loc) (ls : Array Slot) (c1 s1 : Nat), va_P D vwCl (HC aI aJ h st j ++ (HC aI aJ g tt jt ++ ([(fa, .inl (aI, 12, .inl F))]))) H → va_D A (HC aI aJ h st j ++ (HC aI aJ g tt jt ++ ([(fa, .inl (aI, 12, .inl F))]))) → va_S A s.heap H locs → lv_has ls 18 [(0, .ref b), (1, .ref (h 0)), (2, .ref (g 0)), (3, .ref fa), (4, .int (nI th)), (5, .int (nI wd)), (6, .int (nI 1)), (7, .int (nI k))] → c1 ≤ cells → s1 ≤ slots → W p l e R s m args below meth c H locs c1 s1 Q (F0 m 625 ls [])) (kn : ∀ (x : Nat) (j jt : Jk) (F : Nat → Int32) (H : Heap) (locs : List Loc) (ls : Array Slot) (c1 s1 : Nat), (x < 2 ^ 31) → (k < th) → (∀ z, sNl st ≤ z → F z = 0) → (∀ z, z < sNl st → F z = pv (sL st z)) → va_P D vwCl (HC aI aJ h st j ++ (HC aI aJ g tt jt ++ ([(fa, .inl (aI, 12, .inl F))]))) H → va_D A (HC aI aJ h st j ++ (HC aI aJ g tt jt ++ ([(fa, .inl (aI, 12, .inl F))]))) → va_S A s.heap H locs → lv_has ls 18 [(0, .ref b), (1, .ref (h 0)), (2, .ref (g 0)), (3, .ref fa), (4, .int (nI th)), (5, .int (nI wd)), (6, .int (nI 1)), (7, .int (nI k)), (8, .int (nI x)), (9, .int (nI (x / 16))), (10, .int (nI (x % 16))), (11, .int (nI (sN st)))] → c1 ≤ cells + 79 → s1 ≤ slots + 474 → W p l e R s m args below meth c H locs c1 s1 Q (F0 m 115 ls [])) : W p l e R s m args below meth c H locs cells slots Q (F0 m 55 ls []) := by
  obtain ⟨hx, hb, hml, hown, hts, hK, hA, hlocks, hr, hn, hN⟩ := id C
  have hi := u.hs
  have hj := u.ht
  have hnl := u.hnl
  have hnr := u.hnr
  have hmL := u.hs.b12
  have htl : sNl tt ≤ 12 := u.ht.1
  have htr : sNr tt ≤ 12 := u.ht.2.1
  refine lv_iload hx hb dL_law_55 (lv_at hl 7 rfl) ?_
  refine lv_iload hx hb dL_law_57 (lv_at hl 4 rfl) ?_
  refine lv_icmp_ge (tgt := 625) hx hb dL_law_59 (by decide) (fun c_59 => ?_) (fun c_59 => ?_)
  · rw [cv_le (by omega) (by omega)] at c_59
    have hl := lv_sub (l' := [(0, .ref b), (1, .ref (h 0)), (2, .ref (g 0)), (3, .ref fa), (4, .int (nI th)), (5, .int (nI wd)), (6, .int (nI 1)), (7, .int (nI k))]) hl [0, 1, 2, 3, 4, 5, 6, 7] rfl
    exact kx j jt H _ ls _ _ hP hD hS hl (by omega) (by omega)
  · rw [cv_le (by omega) (by omega)] at c_59
    have hkt : k < th := by omega
    refine lv_iload hx hb dL_law_62 (lv_at hl 6 rfl) ?_
    refine lv_if_eq (tgt := 625) hx hb dL_law_64 (by decide) (fun c_64 => ?_) (fun c_64 => ?_)
    · exact absurd c_64 (by decide)
    · clear c_64
      refine lv_aload_n hx hb dL_law_67 rfl (lv_at hl 0 rfl) ?_
      refine lv_iconst (v := nI 1) hx hb dL_law_68 (by decide) ?_
      refine lv_iload hx hb dL_law_69 (lv_at hl 7 rfl) ?_
      refine lv_iadd hx hb dL_law_71 ?_
      refine j_topi (y := nI (1 + k)) (nI_add _ _) ?_
      refine j_drawn (ws := HC aI aJ h st j ++ (HC aI aJ g tt jt ++ ([(fa, .inl (aI, 12, .inl F))]))) (k := (1 + k)) l C hRf hRl hX hbl hbA (by omega) hL hP hS hl.1 dL_law_72 (Nat.le_of_ble_eq_true rfl) ⟨by omega, by omega⟩ (fun n_72 H locs b_72 hP hS => ?_)
      refine lv_istore (lv' := [(8, .int (nI n_72)), (0, .ref b), (1, .ref (h 0)), (2, .ref (g 0)), (3, .ref fa), (4, .int (nI th)), (5, .int (nI wd)), (6, .int (nI 1)), (7, .int (nI k))]) hx hb dL_law_75 hl (by decide) rfl (fun ls hl => ?_)
      refine lv_iload hx hb dL_law_77 (lv_at hl 0 rfl) ?_
      refine lv_bipush (v := nI 16) hx hb dL_law_79 (by decide) ?_
      refine lv_idiv hx hb dL_law_81 (by decide) ?_
      refine j_topi (y := nI (n_72 / 16)) (pk_div (b_72) (by omega) (by omega)) ?_
      refine lv_istore (lv' := [(9, .int (nI (n_72 / 16))), (8, .int (nI n_72)), (0, .ref b), (1, .ref (h 0)), (2, .ref (g 0)), (3, .ref fa), (4, .int (nI th)), (5, .int (nI wd)), (6, .int (nI 1)), (7, .int (nI k))]) hx hb dL_law_82 hl (by decide) rfl (fun ls hl => ?_)
      refine lv_iload hx hb dL_law_84 (lv_at hl 1 rfl) ?_
      refine lv_bipush (v := nI 16) hx hb dL_law_86 (by decide) ?_
      refine lv_irem hx hb dL_law_88 (by decide) ?_
      refine j_topi (y := nI (n_72 % 16)) (pk_rem (b_72) (by omega) (by omega)) ?_
      refine lv_istore (lv' := [(10, .int (nI (n_72 % 16))), (9, .int (nI (n_72 / 16))), (8, .int (nI n_72)), (0, .ref b), (1, .ref (h 0)), (2, .ref (g 0)), (3, .ref fa), (4, .int (nI th)), (5, .int (nI wd)), (6, .int (nI 1)), (7, .int (nI k))]) hx hb dL_law_89 hl (by decide) rfl (fun ls hl => ?_)
      refine lv_aload_n hx hb dL_law_91 rfl (lv_at hl 4 rfl) ?_
      refine lv_iload hx hb dL_law_92 (lv_at hl 1 rfl) ?_
      refine lv_sipush (v := nI 9973) hx hb dL_law_94 (by decide) ?_
      refine lv_irem hx hb dL_law_97 (by decide) ?_
      refine j_topi (y := nI ((n_72 / 16) % 9973)) (pk_rem (by omega) (by omega) (by omega)) ?_
      refine j_calliM (va_runS (As := [.ref (h 0), .int (nI ((n_72 / 16) % 9973))]) (rest := []) C.fix (c_L_refuses l hl0 D aI aJ aZ h st j ((n_72 / 16) % 9973) hi (by omega) H.size) (va_cwS 2 hts gL_law_L_refuses rfl rfl rfl (by decide +kernel) ⟨Nat.le_trans (m := 24) (Nat.le_of_ble_eq_true rfl) hRf, Nat.le_trans (m := 700) (Nat.le_of_ble_eq_true rfl) hRl⟩) (jxPreS hXs hA hS hN hK hP hD [0, 1, 2, 3, 4, 5, 6, 7, 8, 9, 10, 11, 12, 13, 14, 15, 16, 17, 18, 19, 20] rfl rfl (by decide)) rfl rfl hl.1 rfl (lv_room (Nat.le_of_ble_eq_true rfl)) dL_law_98 ⟨by omega, by omega⟩) hA hP hD hS [0, 1, 2, 3, 4, 5, 6, 7, 8, 9, 10, 11, 12, 13, 14, 15, 16, 17, 18, 19, 20] [21, 22, 23, 24, 25, 26, 27, 28, 29, 30, 31, 32, 33, 34, 35, 36, 37, 38, 39, 40, 41, 42] (wr := HC aI aJ g tt jt ++ ([(fa, .inl (aI, 12, .inl F))])) rfl rfl (by decide) (by decide) (fun r_98 u_98 H locs q_98 hP hD hS => ?_)
      have hP := hP.sub (ws' := HC aI aJ h st u_98 ++ (HC aI aJ g tt jt ++ ([(fa, .inl (aI, 12, .inl F))]))) [22, 23, 24, 25, 26, 27, 28, 29, 30, 31, 32, 33, 34, 35, 36, 37, 38, 39, 40, 41, 42, 0, 1, 2, 3, 4, 5, 6, 7, 8, 9, 10, 11, 12, 13, 14, 15, 16, 17, 18, 19, 20, 21] rfl
      have hD := hD.sub (ws' := HC aI aJ h st u_98 ++ (HC aI aJ g tt jt ++ ([(fa, .inl (aI, 12, .inl F))]))) [22, 23, 24, 25, 26, 27, 28, 29, 30, 31, 32, 33, 34, 35, 36, 37, 38, 39, 40, 41, 42, 0, 1, 2, 3, 4, 5, 6, 7, 8, 9, 10, 11, 12, 13, 14, 15, 16, 17, 18, 19, 20, 21] (by decide) rfl
      have hP : va_P D vwCl (HC aI aJ h st u_98 ++ (HC aI aJ g tt jt ++ ([(fa, .inl (aI, 12, .inl F))]))) H := hP
      have hD : va_D A (HC aI aJ h st u_98 ++ (HC aI aJ g tt jt ++ ([(fa, .inl (aI, 12, .inl F))]))) := hD
      refine j_topi (y := nI 1) (q_98) ?_
      refine lv_istore (lv' := [(6, .int (nI 1)), (10, .int (nI (n_72 % 16))), (9, .int (nI (n_72 / 16))), (8, .int (nI n_72)), (0, .ref b), (1, .ref (h 0)), (2, .ref (g 0)), (3, .ref fa), (4, .int (nI th)), (5, .int (nI wd)), (7, .int (nI k))]) hx hb dL_law_101 hl (by decide) rfl (fun ls hl => ?_)
      refine lv_aload_n hx hb dL_law_103 rfl (lv_at hl 5 rfl) ?_
      refine lv_aload_n hx hb dL_law_104 rfl (lv_at hl 7 rfl) ?_
      refine j_calliM (va_runS (As := [.ref (h 0), .ref fa]) (rest := []) C.fix (c_L_changed l hl0 D aI aJ aZ h fa st u_98 F hi H.size) (va_cwS 2 hts gL_law_L_changed rfl rfl rfl (by decide +kernel) ⟨Nat.le_trans (m := 24) (Nat.le_of_ble_eq_true rfl) hRf, Nat.le_trans (m := 700) (Nat.le_of_ble_eq_true rfl) hRl⟩) (jxPreS hXs hA hS hN hK hP hD [0, 1, 2, 3, 4, 5, 6, 7, 8, 9, 10, 11, 12, 13, 14, 15, 16, 17, 18, 19, 20, 42] rfl rfl (by decide)) rfl rfl hl.1 rfl (lv_room (Nat.le_of_ble_eq_true rfl)) dL_law_105 ⟨by omega, by omega⟩) hA hP hD hS [0, 1, 2, 3, 4, 5, 6, 7, 8, 9, 10, 11, 12, 13, 14, 15, 16, 17, 18, 19, 20, 42] [21, 22, 23, 24, 25, 26, 27, 28, 29, 30, 31, 32, 33, 34, 35, 36, 37, 38, 39, 40, 41] (wr := HC aI aJ g tt jt) rfl rfl (by decide) (by decide) (fun r_105 u_105 H locs q_105 hP hD hS => ?_)
      have hP := hP.sub (ws' := HC aI aJ h st u_105 ++ (HC aI aJ g tt jt ++ ([(fa, .inl (aI, 12, .inl (nf F (sL st) (sNl st))))]))) [21, 22, 23, 24, 25, 26, 27, 28, 29, 30, 31, 32, 33, 34, 35, 36, 37, 38, 39, 40, 41, 0, 1, 2, 3, 4, 5, 6, 7, 8, 9, 10, 11, 12, 13, 14, 15, 16, 17, 18, 19, 20, 42] rfl
      have hD := hD.sub (ws' := HC aI aJ h st u_105 ++ (HC aI aJ g tt jt ++ ([(fa, .inl (aI, 12, .inl (nf F (sL st) (sNl st))))]))) [21, 22, 23, 24, 25, 26, 27, 28, 29, 30, 31, 32, 33, 34, 35, 36, 37, 38, 39, 40, 41, 0, 1, 2, 3, 4, 5, 6, 7, 8, 9, 10, 11, 12, 13, 14, 15, 16, 17, 18, 19, 20, 42] (by decide) rfl
      have hP : va_P D vwCl (HC aI aJ h st u_105 ++ (HC aI aJ g tt jt ++ ([(fa, .inl (aI, 12, .inl (nf F (sL st) (sNl st))))]))) H := hP
      have hD : va_D A (HC aI aJ h st u_105 ++ (HC aI aJ g tt jt ++ ([(fa, .inl (aI, 12, .inl (nf F (sL st) (sNl st))))]))) := hD
      refine j_topi (y := nI (chg F (sL st) (sNl st))) (q_105) ?_
      refine lv_pop hx hb dL_law_108 rfl ?_
      refine lv_aload_n hx hb dL_law_109 rfl (lv_at hl 5 rfl) ?_
      refine j_calli (va_runV (As := []) (rest := []) C.fix (k_size l D aI aJ aZ h st u_105 hi H.size) (cwV 0 hts gL_law_X6_size rfl rfl rfl (by decide +kernel) ⟨Nat.le_trans (m := 24) (Nat.le_of_ble_eq_true rfl) hRf, Nat.le_trans (m := 700) (Nat.le_of_ble_eq_true rfl) hRl⟩) (jPreV hN hK hP hD [0, 1, 2, 3, 4, 5, 6, 7, 8, 9, 10, 11, 12, 13, 14, 15, 16, 17, 18, 19, 20] rfl rfl (by decide) (ci := 6) (q0 := 0) rfl rfl) rfl rfl hl.1 rfl (lv_room (Nat.le_of_ble_eq_true rfl)) dL_law_110 ⟨by omega, by omega⟩) hA hP hD hS [0, 1, 2, 3, 4, 5, 6, 7, 8, 9, 10, 11, 12, 13, 14, 15, 16, 17, 18, 19, 20] [21, 22, 23, 24, 25, 26, 27, 28, 29, 30, 31, 32, 33, 34, 35, 36, 37, 38, 39, 40, 41, 42] (wr := HC aI aJ g tt jt ++ ([(fa, .inl (aI, 12, .inl (nf F (sL st) (sNl st))))])) rfl rfl (by decide) (by decide) (fun r_110 u_110 H locs q_110 hP hD hS => ?_)
      have hP := hP.sub (ws' := HC aI aJ h st u_110 ++ (HC aI aJ g tt jt ++ ([(fa, .inl (aI, 12, .inl (nf F (sL st) (sNl st))))]))) [22, 23, 24, 25, 26, 27, 28, 29, 30, 31, 32, 33, 34, 35, 36, 37, 38, 39, 40, 41, 42, 0, 1, 2, 3, 4, 5, 6, 7, 8, 9, 10, 11, 12, 13, 14, 15, 16, 17, 18, 19, 20, 21] rfl
      have hD := hD.sub (ws' := HC aI aJ h st u_110 ++ (HC aI aJ g tt jt ++ ([(fa, .inl (aI, 12, .inl (nf F (sL st) (sNl st))))]))) [22, 23, 24, 25, 26, 27, 28, 29, 30, 31, 32, 33, 34, 35, 36, 37, 38, 39, 40, 41, 42, 0, 1, 2, 3, 4, 5, 6, 7, 8, 9, 10, 11, 12, 13, 14, 15, 16, 17, 18, 19, 20, 21] (by decide) rfl
      have hP : va_P D vwCl (HC aI aJ h st u_110 ++ (HC aI aJ g tt jt ++ ([(fa, .inl (aI, 12, .inl (nf F (sL st) (sNl st))))]))) H := hP
      have hD : va_D A (HC aI aJ h st u_110 ++ (HC aI aJ g tt jt ++ ([(fa, .inl (aI, 12, .inl (nf F (sL st) (sNl st))))]))) := hD
      refine j_topi (y := nI (sN st)) (q_110) ?_
      refine lv_istore (lv' := [(11, .int (nI (sN st))), (6, .int (nI 1)), (10, .int (nI (n_72 % 16))), (9, .int (nI (n_72 / 16))), (8, .int (nI n_72)), (0, .ref b), (1, .ref (h 0)), (2, .ref (g 0)), (3, .ref fa), (4, .int (nI th)), (5, .int (nI wd)), (7, .int (nI k))]) hx hb dL_law_113 hl (by decide) rfl (fun ls hl => ?_)
      have hl := lv_sub (l' := [(0, .ref b), (1, .ref (h 0)), (2, .ref (g 0)), (3, .ref fa), (4, .int (nI th)), (5, .int (nI wd)), (6, .int (nI 1)), (7, .int (nI k)), (8, .int (nI n_72)), (9, .int (nI (n_72 / 16))), (10, .int (nI (n_72 % 16))), (11, .int (nI (sN st)))]) hl [5, 6, 7, 8, 9, 10, 1, 11, 4, 3, 2, 0] rfl
      exact kn n_72 u_110 jt (nf F (sL st) (sNl st)) H _ ls _ _ b_72 hkt (fun z hz1 => (nf_out hz1).trans (hz z hz1)) (fun z hz1 => nf_in hz1) hP hD hS hl (by omega) (by omega)
set_option maxHeartbeats 4000000 in
set_option maxRecDepth 100000 in
theorem la_B  (l : Launch) (hl0 : l.stackTraces = false) (hRf : 24 ≤ R.frames) (hRl : 700 ≤ R.locals) (C : jC p s m meth c cL_law 18 (some .boolean) RL wsL_law D (jT aI aJ aZ) args A nm) (hXs : jXs A s s.heap) (u : TU st tt) (hwd : wd ≤ 12) (hx2 : x < 2 ^ 31) (hP : va_P D vwCl (HC aI aJ h st j ++ (HC aI aJ g tt jt ++ ([(fa, .inl (aI, 12, .inl F))]))) H) (hD : va_D A (HC aI aJ h st j ++ (HC aI aJ g tt jt ++ ([(fa, .inl (aI, 12, .inl F))])))) (hS : va_S A s.heap H locs) (hl : lv_has ls 18 [(0, .ref b), (1, .ref (h 0)), (2, .ref (g 0)), (3, .ref fa), (4, .int (nI th)), (5, .int (nI wd)), (6, .int (nI 1)), (7, .int (nI k)), (8, .int (nI x)), (9, .int (nI (x / 16))), (10, .int (nI (x % 16))), (11, .int (nI (sN st)))]) (hRc : cells + 0 ≤ R.cells) (hRs : slots + 0 ≤ R.slots) (k1 : ∀ (j jt : Jk) (H : Heap) (locs : List Loc) (ls : Array Slot) (c1 s1 : Nat), (sNl st < 12) → va_P D vwCl (HC aI aJ h st j ++ (HC aI aJ g tt jt ++ ([(fa, .inl (aI, 12, .inl F))]))) H → va_D A (HC aI aJ h st j ++ (HC aI aJ g tt jt ++ ([(fa, .inl (aI, 12, .inl F))]))) → va_S A s.heap H locs → lv_has ls 18 [(0, .ref b), (1, .ref (h 0)), (2, .ref (g 0)), (3, .ref fa), (4, .int (nI th)), (5, .int (nI wd)), (6, .int (nI 1)), (7, .int (nI k)), (8, .int (nI x)), (9, .int (nI (x / 16))), (10, .int (nI (x % 16))), (11, .int (nI (sN st)))] → c1 ≤ cells + 0 → s1 ≤ slots + 0 → W p l e R s m args below meth c H locs c1 s1 Q (F0 m 137 ls [])) (k2 : ∀ (j jt : Jk) (H : Heap) (locs : List Loc) (ls : Array Slot) (c1 s1 : Nat), (sNr st < 12) → va_P D vwCl (HC aI aJ h st j ++ (HC aI aJ g tt jt ++ ([(fa, .inl (aI, 12, .inl F))]))) H → va_D A (HC aI aJ h st j ++ (HC aI aJ g tt jt ++ ([(fa, .inl (aI, 12, .inl F))]))) → va_S A s.heap H locs → lv_has ls 18 [(0, .ref b), (1, .ref (h 0)), (2, .ref (g 0)), (3, .ref fa), (4, .int (nI th)), (5, .int (nI wd)), (6, .int (nI 1)), (7, .int (nI k)), (8, .int (nI x)), (9, .int (nI (x / 16))), (10, .int (nI (x % 16))), (11, .int (nI (sN st)))] → c1 ≤ cells + 0 → s1 ≤ slots + 0 → W p l e R s m args below meth c H locs c1 s1 Q (F0 m 204 ls [])) (k3 : ∀ (j jt : Jk) (H : Heap) (locs : List Loc) (ls : Array Slot) (c1 s1 : Nat), va_P D vwCl (HC aI aJ h st j ++ (HC aI aJ g tt jt ++ ([(fa, .inl (aI, 12, .inl F))]))) H → va_D A (HC aI aJ h st j ++ (HC aI aJ g tt jt ++ ([(fa, .inl (aI, 12, .inl F))]))) → va_S A s.heap H locs → lv_has ls 18 [(0, .ref b), (1, .ref (h 0)), (2, .ref (g 0)), (3, .ref fa), (4, .int (nI th)), (5, .int (nI wd)), (6, .int (nI 1)), (7, .int (nI k)), (8, .int (nI x)), (9, .int (nI (x / 16))), (10, .int (nI (x % 16))), (11, .int (nI (sN st)))] → c1 ≤ cells + 0 → s1 ≤ slots + 0 → W p l e R s m args below meth c H locs c1 s1 Q (F0 m 254 ls [])) (k4 : ∀ (j jt : Jk) (H : Heap) (locs : List Loc) (ls : Array Slot) (c1 s1 : Nat), (0 < sNl st) → (0 < sNr st) → va_P D vwCl (HC aI aJ h st j ++ (HC aI aJ g tt jt ++ ([(fa, .inl (aI, 12, .inl F))]))) H → va_D A (HC aI aJ h st j ++ (HC aI aJ g tt jt ++ ([(fa, .inl (aI, 12, .inl F))]))) → va_S A s.heap H locs → lv_has ls 18 [(0, .ref b), (1, .ref (h 0)), (2, .ref (g 0)), (3, .ref fa), (4, .int (nI th)), (5, .int (nI wd)), (6, .int (nI 1)), (7, .int (nI k)), (8, .int (nI x)), (9, .int (nI (x / 16))), (10, .int (nI (x % 16))), (11, .int (nI (sN st)))] → c1 ≤ cells + 0 → s1 ≤ slots + 0 → W p l e R s m args below meth c H locs c1 s1 Q (F0 m 308 ls [])) : W p l e R s m args below meth c H locs cells slots Q (F0 m 115 ls []) := by
  obtain ⟨hx, hb, hml, hown, hts, hK, hA, hlocks, hr, hn, hN⟩ := id C
  have hi := u.hs
  have hj := u.ht
  have hnl := u.hnl
  have hnr := u.hnr
  have hmL := u.hs.b12
  have htl : sNl tt ≤ 12 := u.ht.1
  have htr : sNr tt ≤ 12 := u.ht.2.1
  refine lv_iload hx hb dL_law_115 (lv_at hl 10 rfl) ?_
  refine lv_iconst (v := nI 3) hx hb dL_law_117 (by decide) ?_
  refine lv_icmp_ge (tgt := 130) hx hb dL_law_118 (by decide) (fun c_118 => ?_) (fun c_118 => ?_)
  · refine lv_aload_n hx hb dL_law_130 rfl (lv_at hl 1 rfl) ?_
    refine j_calli (va_runV (As := []) (rest := []) C.fix (k_lefts l D aI aJ aZ h st j hi H.size) (cwV 0 hts gL_law_X6_lefts rfl rfl rfl (by decide +kernel) ⟨Nat.le_trans (m := 24) (Nat.le_of_ble_eq_true rfl) hRf, Nat.le_trans (m := 700) (Nat.le_of_ble_eq_true rfl) hRl⟩) (jPreV hN hK hP hD [0, 1, 2, 3, 4, 5, 6, 7, 8, 9, 10, 11, 12, 13, 14, 15, 16, 17, 18, 19, 20] rfl rfl (by decide) (ci := 6) (q0 := 0) rfl rfl) rfl rfl hl.1 rfl (lv_room (Nat.le_of_ble_eq_true rfl)) dL_law_131 ⟨by omega, by omega⟩) hA hP hD hS [0, 1, 2, 3, 4, 5, 6, 7, 8, 9, 10, 11, 12, 13, 14, 15, 16, 17, 18, 19, 20] [21, 22, 23, 24, 25, 26, 27, 28, 29, 30, 31, 32, 33, 34, 35, 36, 37, 38, 39, 40, 41, 42] (wr := HC aI aJ g tt jt ++ ([(fa, .inl (aI, 12, .inl F))])) rfl rfl (by decide) (by decide) (fun r_131 u_131 H locs q_131 hP hD hS => ?_)
    have hP := hP.sub (ws' := HC aI aJ h st u_131 ++ (HC aI aJ g tt jt ++ ([(fa, .inl (aI, 12, .inl F))]))) [22, 23, 24, 25, 26, 27, 28, 29, 30, 31, 32, 33, 34, 35, 36, 37, 38, 39, 40, 41, 42, 0, 1, 2, 3, 4, 5, 6, 7, 8, 9, 10, 11, 12, 13, 14, 15, 16, 17, 18, 19, 20, 21] rfl
    have hD := hD.sub (ws' := HC aI aJ h st u_131 ++ (HC aI aJ g tt jt ++ ([(fa, .inl (aI, 12, .inl F))]))) [22, 23, 24, 25, 26, 27, 28, 29, 30, 31, 32, 33, 34, 35, 36, 37, 38, 39, 40, 41, 42, 0, 1, 2, 3, 4, 5, 6, 7, 8, 9, 10, 11, 12, 13, 14, 15, 16, 17, 18, 19, 20, 21] (by decide) rfl
    have hP : va_P D vwCl (HC aI aJ h st u_131 ++ (HC aI aJ g tt jt ++ ([(fa, .inl (aI, 12, .inl F))]))) H := hP
    have hD : va_D A (HC aI aJ h st u_131 ++ (HC aI aJ g tt jt ++ ([(fa, .inl (aI, 12, .inl F))]))) := hD
    refine j_topi (y := nI (sNl st)) (q_131) ?_
    refine lv_if_ne (tgt := 181) hx hb dL_law_134 (by decide) (fun c_134 => ?_) (fun c_134 => ?_)
    · rw [cv_eq0 (by omega)] at c_134
      have hl1 : 0 < sNl st := by omega
      refine lv_iload hx hb dL_law_181 (lv_at hl 10 rfl) ?_
      refine lv_bipush (v := nI 6) hx hb dL_law_183 (by decide) ?_
      refine lv_icmp_ge (tgt := 197) hx hb dL_law_185 (by decide) (fun c_185 => ?_) (fun c_185 => ?_)
      · refine lv_aload_n hx hb dL_law_197 rfl (lv_at hl 1 rfl) ?_
        refine j_calli (va_runV (As := []) (rest := []) C.fix (k_rights l D aI aJ aZ h st u_131 hi H.size) (cwV 0 hts gL_law_X6_rights rfl rfl rfl (by decide +kernel) ⟨Nat.le_trans (m := 24) (Nat.le_of_ble_eq_true rfl) hRf, Nat.le_trans (m := 700) (Nat.le_of_ble_eq_true rfl) hRl⟩) (jPreV hN hK hP hD [0, 1, 2, 3, 4, 5, 6, 7, 8, 9, 10, 11, 12, 13, 14, 15, 16, 17, 18, 19, 20] rfl rfl (by decide) (ci := 6) (q0 := 0) rfl rfl) rfl rfl hl.1 rfl (lv_room (Nat.le_of_ble_eq_true rfl)) dL_law_198 ⟨by omega, by omega⟩) hA hP hD hS [0, 1, 2, 3, 4, 5, 6, 7, 8, 9, 10, 11, 12, 13, 14, 15, 16, 17, 18, 19, 20] [21, 22, 23, 24, 25, 26, 27, 28, 29, 30, 31, 32, 33, 34, 35, 36, 37, 38, 39, 40, 41, 42] (wr := HC aI aJ g tt jt ++ ([(fa, .inl (aI, 12, .inl F))])) rfl rfl (by decide) (by decide) (fun r_198 u_198 H locs q_198 hP hD hS => ?_)
        have hP := hP.sub (ws' := HC aI aJ h st u_198 ++ (HC aI aJ g tt jt ++ ([(fa, .inl (aI, 12, .inl F))]))) [22, 23, 24, 25, 26, 27, 28, 29, 30, 31, 32, 33, 34, 35, 36, 37, 38, 39, 40, 41, 42, 0, 1, 2, 3, 4, 5, 6, 7, 8, 9, 10, 11, 12, 13, 14, 15, 16, 17, 18, 19, 20, 21] rfl
        have hD := hD.sub (ws' := HC aI aJ h st u_198 ++ (HC aI aJ g tt jt ++ ([(fa, .inl (aI, 12, .inl F))]))) [22, 23, 24, 25, 26, 27, 28, 29, 30, 31, 32, 33, 34, 35, 36, 37, 38, 39, 40, 41, 42, 0, 1, 2, 3, 4, 5, 6, 7, 8, 9, 10, 11, 12, 13, 14, 15, 16, 17, 18, 19, 20, 21] (by decide) rfl
        have hP : va_P D vwCl (HC aI aJ h st u_198 ++ (HC aI aJ g tt jt ++ ([(fa, .inl (aI, 12, .inl F))]))) H := hP
        have hD : va_D A (HC aI aJ h st u_198 ++ (HC aI aJ g tt jt ++ ([(fa, .inl (aI, 12, .inl F))]))) := hD
        refine j_topi (y := nI (sNr st)) (q_198) ?_
        refine lv_if_ne (tgt := 247) hx hb dL_law_201 (by decide) (fun c_201 => ?_) (fun c_201 => ?_)
        · rw [cv_eq0 (by omega)] at c_201
          have hr1 : 0 < sNr st := by omega
          refine lv_iload hx hb dL_law_247 (lv_at hl 10 rfl) ?_
          refine lv_bipush (v := nI 6) hx hb dL_law_249 (by decide) ?_
          refine lv_icmp_ne (tgt := 308) hx hb dL_law_251 (by decide) (fun c_251 => ?_) (fun c_251 => ?_)
          · have hl := lv_sub (l' := [(0, .ref b), (1, .ref (h 0)), (2, .ref (g 0)), (3, .ref fa), (4, .int (nI th)), (5, .int (nI wd)), (6, .int (nI 1)), (7, .int (nI k)), (8, .int (nI x)), (9, .int (nI (x / 16))), (10, .int (nI (x % 16))), (11, .int (nI (sN st)))]) hl [0, 1, 2, 3, 4, 5, 6, 7, 8, 9, 10, 11] rfl
            exact k4 u_198 jt H _ ls _ _ hl1 hr1 hP hD hS hl (by omega) (by omega)
          · have hl := lv_sub (l' := [(0, .ref b), (1, .ref (h 0)), (2, .ref (g 0)), (3, .ref fa), (4, .int (nI th)), (5, .int (nI wd)), (6, .int (nI 1)), (7, .int (nI k)), (8, .int (nI x)), (9, .int (nI (x / 16))), (10, .int (nI (x % 16))), (11, .int (nI (sN st)))]) hl [0, 1, 2, 3, 4, 5, 6, 7, 8, 9, 10, 11] rfl
            exact k3 u_198 jt H _ ls _ _  hP hD hS hl (by omega) (by omega)
        · rw [cv_eq0 (by omega)] at c_201
          have hrt : sNr st < 12 := by omega
          have hl := lv_sub (l' := [(0, .ref b), (1, .ref (h 0)), (2, .ref (g 0)), (3, .ref fa), (4, .int (nI th)), (5, .int (nI wd)), (6, .int (nI 1)), (7, .int (nI k)), (8, .int (nI x)), (9, .int (nI (x / 16))), (10, .int (nI (x % 16))), (11, .int (nI (sN st)))]) hl [0, 1, 2, 3, 4, 5, 6, 7, 8, 9, 10, 11] rfl
          exact k2 u_198 jt H _ ls _ _ hrt hP hD hS hl (by omega) (by omega)
      · refine lv_aload_n hx hb dL_law_188 rfl (lv_at hl 1 rfl) ?_
        refine j_calli (va_runV (As := []) (rest := []) C.fix (k_rights l D aI aJ aZ h st u_131 hi H.size) (cwV 0 hts gL_law_X6_rights rfl rfl rfl (by decide +kernel) ⟨Nat.le_trans (m := 24) (Nat.le_of_ble_eq_true rfl) hRf, Nat.le_trans (m := 700) (Nat.le_of_ble_eq_true rfl) hRl⟩) (jPreV hN hK hP hD [0, 1, 2, 3, 4, 5, 6, 7, 8, 9, 10, 11, 12, 13, 14, 15, 16, 17, 18, 19, 20] rfl rfl (by decide) (ci := 6) (q0 := 0) rfl rfl) rfl rfl hl.1 rfl (lv_room (Nat.le_of_ble_eq_true rfl)) dL_law_189 ⟨by omega, by omega⟩) hA hP hD hS [0, 1, 2, 3, 4, 5, 6, 7, 8, 9, 10, 11, 12, 13, 14, 15, 16, 17, 18, 19, 20] [21, 22, 23, 24, 25, 26, 27, 28, 29, 30, 31, 32, 33, 34, 35, 36, 37, 38, 39, 40, 41, 42] (wr := HC aI aJ g tt jt ++ ([(fa, .inl (aI, 12, .inl F))])) rfl rfl (by decide) (by decide) (fun r_189 u_189 H locs q_189 hP hD hS => ?_)
        have hP := hP.sub (ws' := HC aI aJ h st u_189 ++ (HC aI aJ g tt jt ++ ([(fa, .inl (aI, 12, .inl F))]))) [22, 23, 24, 25, 26, 27, 28, 29, 30, 31, 32, 33, 34, 35, 36, 37, 38, 39, 40, 41, 42, 0, 1, 2, 3, 4, 5, 6, 7, 8, 9, 10, 11, 12, 13, 14, 15, 16, 17, 18, 19, 20, 21] rfl
        have hD := hD.sub (ws' := HC aI aJ h st u_189 ++ (HC aI aJ g tt jt ++ ([(fa, .inl (aI, 12, .inl F))]))) [22, 23, 24, 25, 26, 27, 28, 29, 30, 31, 32, 33, 34, 35, 36, 37, 38, 39, 40, 41, 42, 0, 1, 2, 3, 4, 5, 6, 7, 8, 9, 10, 11, 12, 13, 14, 15, 16, 17, 18, 19, 20, 21] (by decide) rfl
        have hP : va_P D vwCl (HC aI aJ h st u_189 ++ (HC aI aJ g tt jt ++ ([(fa, .inl (aI, 12, .inl F))]))) H := hP
        have hD : va_D A (HC aI aJ h st u_189 ++ (HC aI aJ g tt jt ++ ([(fa, .inl (aI, 12, .inl F))]))) := hD
        refine j_topi (y := nI (sNr st)) (q_189) ?_
        refine lv_iload hx hb dL_law_192 (lv_at hl 5 rfl) ?_
        refine lv_icmp_lt (tgt := 204) hx hb dL_law_194 (by decide) (fun c_194 => ?_) (fun c_194 => ?_)
        · rw [cv_lt (by omega) (by omega)] at c_194
          have hrt : sNr st < 12 := by omega
          have hl := lv_sub (l' := [(0, .ref b), (1, .ref (h 0)), (2, .ref (g 0)), (3, .ref fa), (4, .int (nI th)), (5, .int (nI wd)), (6, .int (nI 1)), (7, .int (nI k)), (8, .int (nI x)), (9, .int (nI (x / 16))), (10, .int (nI (x % 16))), (11, .int (nI (sN st)))]) hl [0, 1, 2, 3, 4, 5, 6, 7, 8, 9, 10, 11] rfl
          exact k2 u_189 jt H _ ls _ _ hrt hP hD hS hl (by omega) (by omega)
        · refine lv_aload_n hx hb dL_law_197 rfl (lv_at hl 1 rfl) ?_
          refine j_calli (va_runV (As := []) (rest := []) C.fix (k_rights l D aI aJ aZ h st u_189 hi H.size) (cwV 0 hts gL_law_X6_rights rfl rfl rfl (by decide +kernel) ⟨Nat.le_trans (m := 24) (Nat.le_of_ble_eq_true rfl) hRf, Nat.le_trans (m := 700) (Nat.le_of_ble_eq_true rfl) hRl⟩) (jPreV hN hK hP hD [0, 1, 2, 3, 4, 5, 6, 7, 8, 9, 10, 11, 12, 13, 14, 15, 16, 17, 18, 19, 20] rfl rfl (by decide) (ci := 6) (q0 := 0) rfl rfl) rfl rfl hl.1 rfl (lv_room (Nat.le_of_ble_eq_true rfl)) dL_law_198 ⟨by omega, by omega⟩) hA hP hD hS [0, 1, 2, 3, 4, 5, 6, 7, 8, 9, 10, 11, 12, 13, 14, 15, 16, 17, 18, 19, 20] [21, 22, 23, 24, 25, 26, 27, 28, 29, 30, 31, 32, 33, 34, 35, 36, 37, 38, 39, 40, 41, 42] (wr := HC aI aJ g tt jt ++ ([(fa, .inl (aI, 12, .inl F))])) rfl rfl (by decide) (by decide) (fun r_198 u_198 H locs q_198 hP hD hS => ?_)
          have hP := hP.sub (ws' := HC aI aJ h st u_198 ++ (HC aI aJ g tt jt ++ ([(fa, .inl (aI, 12, .inl F))]))) [22, 23, 24, 25, 26, 27, 28, 29, 30, 31, 32, 33, 34, 35, 36, 37, 38, 39, 40, 41, 42, 0, 1, 2, 3, 4, 5, 6, 7, 8, 9, 10, 11, 12, 13, 14, 15, 16, 17, 18, 19, 20, 21] rfl
          have hD := hD.sub (ws' := HC aI aJ h st u_198 ++ (HC aI aJ g tt jt ++ ([(fa, .inl (aI, 12, .inl F))]))) [22, 23, 24, 25, 26, 27, 28, 29, 30, 31, 32, 33, 34, 35, 36, 37, 38, 39, 40, 41, 42, 0, 1, 2, 3, 4, 5, 6, 7, 8, 9, 10, 11, 12, 13, 14, 15, 16, 17, 18, 19, 20, 21] (by decide) rfl
          have hP : va_P D vwCl (HC aI aJ h st u_198 ++ (HC aI aJ g tt jt ++ ([(fa, .inl (aI, 12, .inl F))]))) H := hP
          have hD : va_D A (HC aI aJ h st u_198 ++ (HC aI aJ g tt jt ++ ([(fa, .inl (aI, 12, .inl F))]))) := hD
          refine j_topi (y := nI (sNr st)) (q_198) ?_
          refine lv_if_ne (tgt := 247) hx hb dL_law_201 (by decide) (fun c_201 => ?_) (fun c_201 => ?_)
          · rw [cv_eq0 (by omega)] at c_201
            have hr1 : 0 < sNr st := by omega
            refine lv_iload hx hb dL_law_247 (lv_at hl 10 rfl) ?_
            refine lv_bipush (v := nI 6) hx hb dL_law_249 (by decide) ?_
            refine lv_icmp_ne (tgt := 308) hx hb dL_law_251 (by decide) (fun c_251 => ?_) (fun c_251 => ?_)
            · have hl := lv_sub (l' := [(0, .ref b), (1, .ref (h 0)), (2, .ref (g 0)), (3, .ref fa), (4, .int (nI th)), (5, .int (nI wd)), (6, .int (nI 1)), (7, .int (nI k)), (8, .int (nI x)), (9, .int (nI (x / 16))), (10, .int (nI (x % 16))), (11, .int (nI (sN st)))]) hl [0, 1, 2, 3, 4, 5, 6, 7, 8, 9, 10, 11] rfl
              exact k4 u_198 jt H _ ls _ _ hl1 hr1 hP hD hS hl (by omega) (by omega)
            · have hl := lv_sub (l' := [(0, .ref b), (1, .ref (h 0)), (2, .ref (g 0)), (3, .ref fa), (4, .int (nI th)), (5, .int (nI wd)), (6, .int (nI 1)), (7, .int (nI k)), (8, .int (nI x)), (9, .int (nI (x / 16))), (10, .int (nI (x % 16))), (11, .int (nI (sN st)))]) hl [0, 1, 2, 3, 4, 5, 6, 7, 8, 9, 10, 11] rfl
              exact k3 u_198 jt H _ ls _ _  hP hD hS hl (by omega) (by omega)
          · rw [cv_eq0 (by omega)] at c_201
            have hrt : sNr st < 12 := by omega
            have hl := lv_sub (l' := [(0, .ref b), (1, .ref (h 0)), (2, .ref (g 0)), (3, .ref fa), (4, .int (nI th)), (5, .int (nI wd)), (6, .int (nI 1)), (7, .int (nI k)), (8, .int (nI x)), (9, .int (nI (x / 16))), (10, .int (nI (x % 16))), (11, .int (nI (sN st)))]) hl [0, 1, 2, 3, 4, 5, 6, 7, 8, 9, 10, 11] rfl
            exact k2 u_198 jt H _ ls _ _ hrt hP hD hS hl (by omega) (by omega)
    · rw [cv_eq0 (by omega)] at c_134
      have hlt : sNl st < 12 := by omega
      have hl := lv_sub (l' := [(0, .ref b), (1, .ref (h 0)), (2, .ref (g 0)), (3, .ref fa), (4, .int (nI th)), (5, .int (nI wd)), (6, .int (nI 1)), (7, .int (nI k)), (8, .int (nI x)), (9, .int (nI (x / 16))), (10, .int (nI (x % 16))), (11, .int (nI (sN st)))]) hl [0, 1, 2, 3, 4, 5, 6, 7, 8, 9, 10, 11] rfl
      exact k1 u_131 jt H _ ls _ _ hlt hP hD hS hl (by omega) (by omega)
  · refine lv_aload_n hx hb dL_law_121 rfl (lv_at hl 1 rfl) ?_
    refine j_calli (va_runV (As := []) (rest := []) C.fix (k_lefts l D aI aJ aZ h st j hi H.size) (cwV 0 hts gL_law_X6_lefts rfl rfl rfl (by decide +kernel) ⟨Nat.le_trans (m := 24) (Nat.le_of_ble_eq_true rfl) hRf, Nat.le_trans (m := 700) (Nat.le_of_ble_eq_true rfl) hRl⟩) (jPreV hN hK hP hD [0, 1, 2, 3, 4, 5, 6, 7, 8, 9, 10, 11, 12, 13, 14, 15, 16, 17, 18, 19, 20] rfl rfl (by decide) (ci := 6) (q0 := 0) rfl rfl) rfl rfl hl.1 rfl (lv_room (Nat.le_of_ble_eq_true rfl)) dL_law_122 ⟨by omega, by omega⟩) hA hP hD hS [0, 1, 2, 3, 4, 5, 6, 7, 8, 9, 10, 11, 12, 13, 14, 15, 16, 17, 18, 19, 20] [21, 22, 23, 24, 25, 26, 27, 28, 29, 30, 31, 32, 33, 34, 35, 36, 37, 38, 39, 40, 41, 42] (wr := HC aI aJ g tt jt ++ ([(fa, .inl (aI, 12, .inl F))])) rfl rfl (by decide) (by decide) (fun r_122 u_122 H locs q_122 hP hD hS => ?_)
    have hP := hP.sub (ws' := HC aI aJ h st u_122 ++ (HC aI aJ g tt jt ++ ([(fa, .inl (aI, 12, .inl F))]))) [22, 23, 24, 25, 26, 27, 28, 29, 30, 31, 32, 33, 34, 35, 36, 37, 38, 39, 40, 41, 42, 0, 1, 2, 3, 4, 5, 6, 7, 8, 9, 10, 11, 12, 13, 14, 15, 16, 17, 18, 19, 20, 21] rfl
    have hD := hD.sub (ws' := HC aI aJ h st u_122 ++ (HC aI aJ g tt jt ++ ([(fa, .inl (aI, 12, .inl F))]))) [22, 23, 24, 25, 26, 27, 28, 29, 30, 31, 32, 33, 34, 35, 36, 37, 38, 39, 40, 41, 42, 0, 1, 2, 3, 4, 5, 6, 7, 8, 9, 10, 11, 12, 13, 14, 15, 16, 17, 18, 19, 20, 21] (by decide) rfl
    have hP : va_P D vwCl (HC aI aJ h st u_122 ++ (HC aI aJ g tt jt ++ ([(fa, .inl (aI, 12, .inl F))]))) H := hP
    have hD : va_D A (HC aI aJ h st u_122 ++ (HC aI aJ g tt jt ++ ([(fa, .inl (aI, 12, .inl F))]))) := hD
    refine j_topi (y := nI (sNl st)) (q_122) ?_
    refine lv_iload hx hb dL_law_125 (lv_at hl 5 rfl) ?_
    refine lv_icmp_lt (tgt := 137) hx hb dL_law_127 (by decide) (fun c_127 => ?_) (fun c_127 => ?_)
    · rw [cv_lt (by omega) (by omega)] at c_127
      have hlt : sNl st < 12 := by omega
      have hl := lv_sub (l' := [(0, .ref b), (1, .ref (h 0)), (2, .ref (g 0)), (3, .ref fa), (4, .int (nI th)), (5, .int (nI wd)), (6, .int (nI 1)), (7, .int (nI k)), (8, .int (nI x)), (9, .int (nI (x / 16))), (10, .int (nI (x % 16))), (11, .int (nI (sN st)))]) hl [0, 1, 2, 3, 4, 5, 6, 7, 8, 9, 10, 11] rfl
      exact k1 u_122 jt H _ ls _ _ hlt hP hD hS hl (by omega) (by omega)
    · refine lv_aload_n hx hb dL_law_130 rfl (lv_at hl 1 rfl) ?_
      refine j_calli (va_runV (As := []) (rest := []) C.fix (k_lefts l D aI aJ aZ h st u_122 hi H.size) (cwV 0 hts gL_law_X6_lefts rfl rfl rfl (by decide +kernel) ⟨Nat.le_trans (m := 24) (Nat.le_of_ble_eq_true rfl) hRf, Nat.le_trans (m := 700) (Nat.le_of_ble_eq_true rfl) hRl⟩) (jPreV hN hK hP hD [0, 1, 2, 3, 4, 5, 6, 7, 8, 9, 10, 11, 12, 13, 14, 15, 16, 17, 18, 19, 20] rfl rfl (by decide) (ci := 6) (q0 := 0) rfl rfl) rfl rfl hl.1 rfl (lv_room (Nat.le_of_ble_eq_true rfl)) dL_law_131 ⟨by omega, by omega⟩) hA hP hD hS [0, 1, 2, 3, 4, 5, 6, 7, 8, 9, 10, 11, 12, 13, 14, 15, 16, 17, 18, 19, 20] [21, 22, 23, 24, 25, 26, 27, 28, 29, 30, 31, 32, 33, 34, 35, 36, 37, 38, 39, 40, 41, 42] (wr := HC aI aJ g tt jt ++ ([(fa, .inl (aI, 12, .inl F))])) rfl rfl (by decide) (by decide) (fun r_131 u_131 H locs q_131 hP hD hS => ?_)
      have hP := hP.sub (ws' := HC aI aJ h st u_131 ++ (HC aI aJ g tt jt ++ ([(fa, .inl (aI, 12, .inl F))]))) [22, 23, 24, 25, 26, 27, 28, 29, 30, 31, 32, 33, 34, 35, 36, 37, 38, 39, 40, 41, 42, 0, 1, 2, 3, 4, 5, 6, 7, 8, 9, 10, 11, 12, 13, 14, 15, 16, 17, 18, 19, 20, 21] rfl
      have hD := hD.sub (ws' := HC aI aJ h st u_131 ++ (HC aI aJ g tt jt ++ ([(fa, .inl (aI, 12, .inl F))]))) [22, 23, 24, 25, 26, 27, 28, 29, 30, 31, 32, 33, 34, 35, 36, 37, 38, 39, 40, 41, 42, 0, 1, 2, 3, 4, 5, 6, 7, 8, 9, 10, 11, 12, 13, 14, 15, 16, 17, 18, 19, 20, 21] (by decide) rfl
      have hP : va_P D vwCl (HC aI aJ h st u_131 ++ (HC aI aJ g tt jt ++ ([(fa, .inl (aI, 12, .inl F))]))) H := hP
      have hD : va_D A (HC aI aJ h st u_131 ++ (HC aI aJ g tt jt ++ ([(fa, .inl (aI, 12, .inl F))]))) := hD
      refine j_topi (y := nI (sNl st)) (q_131) ?_
      refine lv_if_ne (tgt := 181) hx hb dL_law_134 (by decide) (fun c_134 => ?_) (fun c_134 => ?_)
      · rw [cv_eq0 (by omega)] at c_134
        have hl1 : 0 < sNl st := by omega
        refine lv_iload hx hb dL_law_181 (lv_at hl 10 rfl) ?_
        refine lv_bipush (v := nI 6) hx hb dL_law_183 (by decide) ?_
        refine lv_icmp_ge (tgt := 197) hx hb dL_law_185 (by decide) (fun c_185 => ?_) (fun c_185 => ?_)
        · refine lv_aload_n hx hb dL_law_197 rfl (lv_at hl 1 rfl) ?_
          refine j_calli (va_runV (As := []) (rest := []) C.fix (k_rights l D aI aJ aZ h st u_131 hi H.size) (cwV 0 hts gL_law_X6_rights rfl rfl rfl (by decide +kernel) ⟨Nat.le_trans (m := 24) (Nat.le_of_ble_eq_true rfl) hRf, Nat.le_trans (m := 700) (Nat.le_of_ble_eq_true rfl) hRl⟩) (jPreV hN hK hP hD [0, 1, 2, 3, 4, 5, 6, 7, 8, 9, 10, 11, 12, 13, 14, 15, 16, 17, 18, 19, 20] rfl rfl (by decide) (ci := 6) (q0 := 0) rfl rfl) rfl rfl hl.1 rfl (lv_room (Nat.le_of_ble_eq_true rfl)) dL_law_198 ⟨by omega, by omega⟩) hA hP hD hS [0, 1, 2, 3, 4, 5, 6, 7, 8, 9, 10, 11, 12, 13, 14, 15, 16, 17, 18, 19, 20] [21, 22, 23, 24, 25, 26, 27, 28, 29, 30, 31, 32, 33, 34, 35, 36, 37, 38, 39, 40, 41, 42] (wr := HC aI aJ g tt jt ++ ([(fa, .inl (aI, 12, .inl F))])) rfl rfl (by decide) (by decide) (fun r_198 u_198 H locs q_198 hP hD hS => ?_)
          have hP := hP.sub (ws' := HC aI aJ h st u_198 ++ (HC aI aJ g tt jt ++ ([(fa, .inl (aI, 12, .inl F))]))) [22, 23, 24, 25, 26, 27, 28, 29, 30, 31, 32, 33, 34, 35, 36, 37, 38, 39, 40, 41, 42, 0, 1, 2, 3, 4, 5, 6, 7, 8, 9, 10, 11, 12, 13, 14, 15, 16, 17, 18, 19, 20, 21] rfl
          have hD := hD.sub (ws' := HC aI aJ h st u_198 ++ (HC aI aJ g tt jt ++ ([(fa, .inl (aI, 12, .inl F))]))) [22, 23, 24, 25, 26, 27, 28, 29, 30, 31, 32, 33, 34, 35, 36, 37, 38, 39, 40, 41, 42, 0, 1, 2, 3, 4, 5, 6, 7, 8, 9, 10, 11, 12, 13, 14, 15, 16, 17, 18, 19, 20, 21] (by decide) rfl
          have hP : va_P D vwCl (HC aI aJ h st u_198 ++ (HC aI aJ g tt jt ++ ([(fa, .inl (aI, 12, .inl F))]))) H := hP
          have hD : va_D A (HC aI aJ h st u_198 ++ (HC aI aJ g tt jt ++ ([(fa, .inl (aI, 12, .inl F))]))) := hD
          refine j_topi (y := nI (sNr st)) (q_198) ?_
          refine lv_if_ne (tgt := 247) hx hb dL_law_201 (by decide) (fun c_201 => ?_) (fun c_201 => ?_)
          · rw [cv_eq0 (by omega)] at c_201
            have hr1 : 0 < sNr st := by omega
            refine lv_iload hx hb dL_law_247 (lv_at hl 10 rfl) ?_
            refine lv_bipush (v := nI 6) hx hb dL_law_249 (by decide) ?_
            refine lv_icmp_ne (tgt := 308) hx hb dL_law_251 (by decide) (fun c_251 => ?_) (fun c_251 => ?_)
            · have hl := lv_sub (l' := [(0, .ref b), (1, .ref (h 0)), (2, .ref (g 0)), (3, .ref fa), (4, .int (nI th)), (5, .int (nI wd)), (6, .int (nI 1)), (7, .int (nI k)), (8, .int (nI x)), (9, .int (nI (x / 16))), (10, .int (nI (x % 16))), (11, .int (nI (sN st)))]) hl [0, 1, 2, 3, 4, 5, 6, 7, 8, 9, 10, 11] rfl
              exact k4 u_198 jt H _ ls _ _ hl1 hr1 hP hD hS hl (by omega) (by omega)
            · have hl := lv_sub (l' := [(0, .ref b), (1, .ref (h 0)), (2, .ref (g 0)), (3, .ref fa), (4, .int (nI th)), (5, .int (nI wd)), (6, .int (nI 1)), (7, .int (nI k)), (8, .int (nI x)), (9, .int (nI (x / 16))), (10, .int (nI (x % 16))), (11, .int (nI (sN st)))]) hl [0, 1, 2, 3, 4, 5, 6, 7, 8, 9, 10, 11] rfl
              exact k3 u_198 jt H _ ls _ _  hP hD hS hl (by omega) (by omega)
          · rw [cv_eq0 (by omega)] at c_201
            have hrt : sNr st < 12 := by omega
            have hl := lv_sub (l' := [(0, .ref b), (1, .ref (h 0)), (2, .ref (g 0)), (3, .ref fa), (4, .int (nI th)), (5, .int (nI wd)), (6, .int (nI 1)), (7, .int (nI k)), (8, .int (nI x)), (9, .int (nI (x / 16))), (10, .int (nI (x % 16))), (11, .int (nI (sN st)))]) hl [0, 1, 2, 3, 4, 5, 6, 7, 8, 9, 10, 11] rfl
            exact k2 u_198 jt H _ ls _ _ hrt hP hD hS hl (by omega) (by omega)
        · refine lv_aload_n hx hb dL_law_188 rfl (lv_at hl 1 rfl) ?_
          refine j_calli (va_runV (As := []) (rest := []) C.fix (k_rights l D aI aJ aZ h st u_131 hi H.size) (cwV 0 hts gL_law_X6_rights rfl rfl rfl (by decide +kernel) ⟨Nat.le_trans (m := 24) (Nat.le_of_ble_eq_true rfl) hRf, Nat.le_trans (m := 700) (Nat.le_of_ble_eq_true rfl) hRl⟩) (jPreV hN hK hP hD [0, 1, 2, 3, 4, 5, 6, 7, 8, 9, 10, 11, 12, 13, 14, 15, 16, 17, 18, 19, 20] rfl rfl (by decide) (ci := 6) (q0 := 0) rfl rfl) rfl rfl hl.1 rfl (lv_room (Nat.le_of_ble_eq_true rfl)) dL_law_189 ⟨by omega, by omega⟩) hA hP hD hS [0, 1, 2, 3, 4, 5, 6, 7, 8, 9, 10, 11, 12, 13, 14, 15, 16, 17, 18, 19, 20] [21, 22, 23, 24, 25, 26, 27, 28, 29, 30, 31, 32, 33, 34, 35, 36, 37, 38, 39, 40, 41, 42] (wr := HC aI aJ g tt jt ++ ([(fa, .inl (aI, 12, .inl F))])) rfl rfl (by decide) (by decide) (fun r_189 u_189 H locs q_189 hP hD hS => ?_)
          have hP := hP.sub (ws' := HC aI aJ h st u_189 ++ (HC aI aJ g tt jt ++ ([(fa, .inl (aI, 12, .inl F))]))) [22, 23, 24, 25, 26, 27, 28, 29, 30, 31, 32, 33, 34, 35, 36, 37, 38, 39, 40, 41, 42, 0, 1, 2, 3, 4, 5, 6, 7, 8, 9, 10, 11, 12, 13, 14, 15, 16, 17, 18, 19, 20, 21] rfl
          have hD := hD.sub (ws' := HC aI aJ h st u_189 ++ (HC aI aJ g tt jt ++ ([(fa, .inl (aI, 12, .inl F))]))) [22, 23, 24, 25, 26, 27, 28, 29, 30, 31, 32, 33, 34, 35, 36, 37, 38, 39, 40, 41, 42, 0, 1, 2, 3, 4, 5, 6, 7, 8, 9, 10, 11, 12, 13, 14, 15, 16, 17, 18, 19, 20, 21] (by decide) rfl
          have hP : va_P D vwCl (HC aI aJ h st u_189 ++ (HC aI aJ g tt jt ++ ([(fa, .inl (aI, 12, .inl F))]))) H := hP
          have hD : va_D A (HC aI aJ h st u_189 ++ (HC aI aJ g tt jt ++ ([(fa, .inl (aI, 12, .inl F))]))) := hD
          refine j_topi (y := nI (sNr st)) (q_189) ?_
          refine lv_iload hx hb dL_law_192 (lv_at hl 5 rfl) ?_
          refine lv_icmp_lt (tgt := 204) hx hb dL_law_194 (by decide) (fun c_194 => ?_) (fun c_194 => ?_)
          · rw [cv_lt (by omega) (by omega)] at c_194
            have hrt : sNr st < 12 := by omega
            have hl := lv_sub (l' := [(0, .ref b), (1, .ref (h 0)), (2, .ref (g 0)), (3, .ref fa), (4, .int (nI th)), (5, .int (nI wd)), (6, .int (nI 1)), (7, .int (nI k)), (8, .int (nI x)), (9, .int (nI (x / 16))), (10, .int (nI (x % 16))), (11, .int (nI (sN st)))]) hl [0, 1, 2, 3, 4, 5, 6, 7, 8, 9, 10, 11] rfl
            exact k2 u_189 jt H _ ls _ _ hrt hP hD hS hl (by omega) (by omega)
          · refine lv_aload_n hx hb dL_law_197 rfl (lv_at hl 1 rfl) ?_
            refine j_calli (va_runV (As := []) (rest := []) C.fix (k_rights l D aI aJ aZ h st u_189 hi H.size) (cwV 0 hts gL_law_X6_rights rfl rfl rfl (by decide +kernel) ⟨Nat.le_trans (m := 24) (Nat.le_of_ble_eq_true rfl) hRf, Nat.le_trans (m := 700) (Nat.le_of_ble_eq_true rfl) hRl⟩) (jPreV hN hK hP hD [0, 1, 2, 3, 4, 5, 6, 7, 8, 9, 10, 11, 12, 13, 14, 15, 16, 17, 18, 19, 20] rfl rfl (by decide) (ci := 6) (q0 := 0) rfl rfl) rfl rfl hl.1 rfl (lv_room (Nat.le_of_ble_eq_true rfl)) dL_law_198 ⟨by omega, by omega⟩) hA hP hD hS [0, 1, 2, 3, 4, 5, 6, 7, 8, 9, 10, 11, 12, 13, 14, 15, 16, 17, 18, 19, 20] [21, 22, 23, 24, 25, 26, 27, 28, 29, 30, 31, 32, 33, 34, 35, 36, 37, 38, 39, 40, 41, 42] (wr := HC aI aJ g tt jt ++ ([(fa, .inl (aI, 12, .inl F))])) rfl rfl (by decide) (by decide) (fun r_198 u_198 H locs q_198 hP hD hS => ?_)
            have hP := hP.sub (ws' := HC aI aJ h st u_198 ++ (HC aI aJ g tt jt ++ ([(fa, .inl (aI, 12, .inl F))]))) [22, 23, 24, 25, 26, 27, 28, 29, 30, 31, 32, 33, 34, 35, 36, 37, 38, 39, 40, 41, 42, 0, 1, 2, 3, 4, 5, 6, 7, 8, 9, 10, 11, 12, 13, 14, 15, 16, 17, 18, 19, 20, 21] rfl
            have hD := hD.sub (ws' := HC aI aJ h st u_198 ++ (HC aI aJ g tt jt ++ ([(fa, .inl (aI, 12, .inl F))]))) [22, 23, 24, 25, 26, 27, 28, 29, 30, 31, 32, 33, 34, 35, 36, 37, 38, 39, 40, 41, 42, 0, 1, 2, 3, 4, 5, 6, 7, 8, 9, 10, 11, 12, 13, 14, 15, 16, 17, 18, 19, 20, 21] (by decide) rfl
            have hP : va_P D vwCl (HC aI aJ h st u_198 ++ (HC aI aJ g tt jt ++ ([(fa, .inl (aI, 12, .inl F))]))) H := hP
            have hD : va_D A (HC aI aJ h st u_198 ++ (HC aI aJ g tt jt ++ ([(fa, .inl (aI, 12, .inl F))]))) := hD
            refine j_topi (y := nI (sNr st)) (q_198) ?_
            refine lv_if_ne (tgt := 247) hx hb dL_law_201 (by decide) (fun c_201 => ?_) (fun c_201 => ?_)
            · rw [cv_eq0 (by omega)] at c_201
              have hr1 : 0 < sNr st := by omega
              refine lv_iload hx hb dL_law_247 (lv_at hl 10 rfl) ?_
              refine lv_bipush (v := nI 6) hx hb dL_law_249 (by decide) ?_
              refine lv_icmp_ne (tgt := 308) hx hb dL_law_251 (by decide) (fun c_251 => ?_) (fun c_251 => ?_)
              · have hl := lv_sub (l' := [(0, .ref b), (1, .ref (h 0)), (2, .ref (g 0)), (3, .ref fa), (4, .int (nI th)), (5, .int (nI wd)), (6, .int (nI 1)), (7, .int (nI k)), (8, .int (nI x)), (9, .int (nI (x / 16))), (10, .int (nI (x % 16))), (11, .int (nI (sN st)))]) hl [0, 1, 2, 3, 4, 5, 6, 7, 8, 9, 10, 11] rfl
                exact k4 u_198 jt H _ ls _ _ hl1 hr1 hP hD hS hl (by omega) (by omega)
              · have hl := lv_sub (l' := [(0, .ref b), (1, .ref (h 0)), (2, .ref (g 0)), (3, .ref fa), (4, .int (nI th)), (5, .int (nI wd)), (6, .int (nI 1)), (7, .int (nI k)), (8, .int (nI x)), (9, .int (nI (x / 16))), (10, .int (nI (x % 16))), (11, .int (nI (sN st)))]) hl [0, 1, 2, 3, 4, 5, 6, 7, 8, 9, 10, 11] rfl
                exact k3 u_198 jt H _ ls _ _  hP hD hS hl (by omega) (by omega)
            · rw [cv_eq0 (by omega)] at c_201
              have hrt : sNr st < 12 := by omega
              have hl := lv_sub (l' := [(0, .ref b), (1, .ref (h 0)), (2, .ref (g 0)), (3, .ref fa), (4, .int (nI th)), (5, .int (nI wd)), (6, .int (nI 1)), (7, .int (nI k)), (8, .int (nI x)), (9, .int (nI (x / 16))), (10, .int (nI (x % 16))), (11, .int (nI (sN st)))]) hl [0, 1, 2, 3, 4, 5, 6, 7, 8, 9, 10, 11] rfl
              exact k2 u_198 jt H _ ls _ _ hrt hP hD hS hl (by omega) (by omega)
      · rw [cv_eq0 (by omega)] at c_134
        have hlt : sNl st < 12 := by omega
        have hl := lv_sub (l' := [(0, .ref b), (1, .ref (h 0)), (2, .ref (g 0)), (3, .ref fa), (4, .int (nI th)), (5, .int (nI wd)), (6, .int (nI 1)), (7, .int (nI k)), (8, .int (nI x)), (9, .int (nI (x / 16))), (10, .int (nI (x % 16))), (11, .int (nI (sN st)))]) hl [0, 1, 2, 3, 4, 5, 6, 7, 8, 9, 10, 11] rfl
        exact k1 u_131 jt H _ ls _ _ hlt hP hD hS hl (by omega) (by omega)
set_option maxHeartbeats 4000000 in
set_option maxRecDepth 100000 in
theorem la_C  (l : Launch) (hl0 : l.stackTraces = false) (hRf : 24 ≤ R.frames) (hRl : 700 ≤ R.locals) (C : jC p s m meth c cL_law 18 (some .boolean) RL wsL_law D (jT aI aJ aZ) args A nm) (hXs : jXs A s s.heap) (u : TU st tt) (hz : ∀ z, sNl st ≤ z → F z = 0) (hn9 : ∀ z, z < sNl st → F z = pv (sL st z)) (hlt : sNl st < 12) (hP : va_P D vwCl (HC aI aJ h st j ++ (HC aI aJ g tt jt ++ ([(fa, .inl (aI, 12, .inl F))]))) H) (hD : va_D A (HC aI aJ h st j ++ (HC aI aJ g tt jt ++ ([(fa, .inl (aI, 12, .inl F))])))) (hS : va_S A s.heap H locs) (hl : lv_has ls 18 [(0, .ref b), (1, .ref (h 0)), (2, .ref (g 0)), (3, .ref fa), (4, .int (nI th)), (5, .int (nI wd)), (6, .int (nI 1)), (7, .int (nI k)), (8, .int (nI x)), (9, .int (nI (x / 16))), (10, .int (nI (x % 16))), (11, .int (nI (sN st)))]) (hRc : cells + 29 ≤ R.cells) (hRs : slots + 174 ≤ R.slots) (kk : ∀ (st tt : St) (j jt : Jk) (F : Nat → Int32) (H : Heap) (locs : List Loc) (ls : Array Slot) (c1 s1 : Nat), (TU st tt) → (∀ z, sNl st ≤ z → F z = 0) → va_P D vwCl (HC aI aJ h st j ++ (HC aI aJ g tt jt ++ ([(fa, .inl (aI, 12, .inl F))]))) H → va_D A (HC aI aJ h st j ++ (HC aI aJ g tt jt ++ ([(fa, .inl (aI, 12, .inl F))]))) → va_S A s.heap H locs → lv_has ls 18 [(0, .ref b), (1, .ref (h 0)), (2, .ref (g 0)), (3, .ref fa), (4, .int (nI th)), (5, .int (nI wd)), (6, .int (nI 1)), (7, .int (nI k)), (8, .int (nI x)), (9, .int (nI (x / 16)))] → c1 ≤ cells + 29 → s1 ≤ slots + 174 → W p l e R s m args below meth c H locs c1 s1 Q (F0 m 568 ls [])) : W p l e R s m args below meth c H locs cells slots Q (F0 m 137 ls []) := by
  obtain ⟨hx, hb, hml, hown, hts, hK, hA, hlocks, hr, hn, hN⟩ := id C
  have hi := u.hs
  have hj := u.ht
  have hnl := u.hnl
  have hnr := u.hnr
  have hmL := u.hs.b12
  have htl : sNl tt ≤ 12 := u.ht.1
  have htr : sNr tt ≤ 12 := u.ht.2.1
  have htt : sNr tt < 12 := by rw [u.nr]; exact hlt
  have u2 := u.al hlt
  have hch : chg F (sL (alS st)) (sNl (alS st)) = 1 := by
      have a := chg_al hi (F := F) (hz _ (Nat.le_refl _))
      have e : nf F (sL st) (sNl st) = F := by
        funext z
        by_cases q : z < sNl st
        · rw [nf_in q]; exact (hn9 z q).symm
        · exact nf_out (by omega)
      rw [e] at a
      exact a
  refine lv_iload hx hb dL_law_137 (lv_at hl 6 rfl) ?_
  refine lv_if_eq (tgt := 175) hx hb dL_law_139 (by decide) (fun c_139 => ?_) (fun c_139 => ?_)
  · exact absurd c_139 (by decide)
  · clear c_139
    refine lv_aload_n hx hb dL_law_142 rfl (lv_at hl 1 rfl) ?_
    refine j_calliM (vx_runSW (As := [.ref (h 0)]) (rest := []) C.fix (c_L_newLeft l hl0 D aI aJ aZ h st j  hi H.size) (vx_cwSW 1 hts gL_law_L_newLeft rfl rfl rfl (by decide +kernel) ⟨Nat.le_trans (m := 24) (Nat.le_of_ble_eq_true rfl) hRf, Nat.le_trans (m := 700) (Nat.le_of_ble_eq_true rfl) hRl⟩) (jxPreS hXs hA hS hN hK hP hD [0, 1, 2, 3, 4, 5, 6, 7, 8, 9, 10, 11, 12, 13, 14, 15, 16, 17, 18, 19, 20] rfl rfl (by decide)) rfl rfl hl.1 rfl (lv_room (Nat.le_of_ble_eq_true rfl)) dL_law_143 ⟨by omega, by omega⟩) hA hP hD hS [0, 1, 2, 3, 4, 5, 6, 7, 8, 9, 10, 11, 12, 13, 14, 15, 16, 17, 18, 19, 20] [21, 22, 23, 24, 25, 26, 27, 28, 29, 30, 31, 32, 33, 34, 35, 36, 37, 38, 39, 40, 41, 42] (wr := HC aI aJ g tt jt ++ ([(fa, .inl (aI, 12, .inl F))])) rfl rfl (by decide) (by decide) (fun r_143 u_143 H locs q_143 hP hD hS => ?_)
    have hP := hP.sub (ws' := HC aI aJ h u_143.1 u_143.2 ++ (HC aI aJ g tt jt ++ ([(fa, .inl (aI, 12, .inl F))]))) [22, 23, 24, 25, 26, 27, 28, 29, 30, 31, 32, 33, 34, 35, 36, 37, 38, 39, 40, 41, 42, 0, 1, 2, 3, 4, 5, 6, 7, 8, 9, 10, 11, 12, 13, 14, 15, 16, 17, 18, 19, 20, 21] rfl
    have hD := hD.sub (ws' := HC aI aJ h u_143.1 u_143.2 ++ (HC aI aJ g tt jt ++ ([(fa, .inl (aI, 12, .inl F))]))) [22, 23, 24, 25, 26, 27, 28, 29, 30, 31, 32, 33, 34, 35, 36, 37, 38, 39, 40, 41, 42, 0, 1, 2, 3, 4, 5, 6, 7, 8, 9, 10, 11, 12, 13, 14, 15, 16, 17, 18, 19, 20, 21] (by decide) rfl
    have hP : va_P D vwCl (HC aI aJ h u_143.1 u_143.2 ++ (HC aI aJ g tt jt ++ ([(fa, .inl (aI, 12, .inl F))]))) H := hP
    have hD : va_D A (HC aI aJ h u_143.1 u_143.2 ++ (HC aI aJ g tt jt ++ ([(fa, .inl (aI, 12, .inl F))]))) := hD
    have et_143 := (nl_ok hlt q_143).1
    have er_143 := (nl_ok hlt q_143).2
    rw [et_143] at hP hD
    have hP : va_P D vwCl (HC aI aJ h (alS st) u_143.2 ++ (HC aI aJ g tt jt ++ ([(fa, .inl (aI, 12, .inl F))]))) H := hP
    have hD : va_D A (HC aI aJ h (alS st) u_143.2 ++ (HC aI aJ g tt jt ++ ([(fa, .inl (aI, 12, .inl F))]))) := hD
    refine j_topi (y := nI (sNl st)) er_143 ?_
    refine lv_aload_n hx hb dL_law_146 rfl (lv_at hl 2 rfl) ?_
    refine j_calliM (vx_runSW (As := [.ref (g 0)]) (rest := [.int (nI (sNl st))]) C.fix (c_L_newRight l hl0 D aI aJ aZ g tt jt  hj H.size) (vx_cwSW 1 hts gL_law_L_newRight rfl rfl rfl (by decide +kernel) ⟨Nat.le_trans (m := 24) (Nat.le_of_ble_eq_true rfl) hRf, Nat.le_trans (m := 700) (Nat.le_of_ble_eq_true rfl) hRl⟩) (jxPreS hXs hA hS hN hK hP hD [21, 22, 23, 24, 25, 26, 27, 28, 29, 30, 31, 32, 33, 34, 35, 36, 37, 38, 39, 40, 41] rfl rfl (by decide)) rfl rfl hl.1 rfl (lv_room (Nat.le_of_ble_eq_true rfl)) dL_law_147 ⟨by omega, by omega⟩) hA hP hD hS [21, 22, 23, 24, 25, 26, 27, 28, 29, 30, 31, 32, 33, 34, 35, 36, 37, 38, 39, 40, 41] [0, 1, 2, 3, 4, 5, 6, 7, 8, 9, 10, 11, 12, 13, 14, 15, 16, 17, 18, 19, 20, 42] (wr := HC aI aJ h (alS st) u_143.2 ++ ([(fa, .inl (aI, 12, .inl F))])) rfl rfl (by decide) (by decide) (fun r_147 u_147 H locs q_147 hP hD hS => ?_)
    have hP := hP.sub (ws' := HC aI aJ h (alS st) u_143.2 ++ (HC aI aJ g u_147.1 u_147.2 ++ ([(fa, .inl (aI, 12, .inl F))]))) [0, 1, 2, 3, 4, 5, 6, 7, 8, 9, 10, 11, 12, 13, 14, 15, 16, 17, 18, 19, 20, 22, 23, 24, 25, 26, 27, 28, 29, 30, 31, 32, 33, 34, 35, 36, 37, 38, 39, 40, 41, 42, 21] rfl
    have hD := hD.sub (ws' := HC aI aJ h (alS st) u_143.2 ++ (HC aI aJ g u_147.1 u_147.2 ++ ([(fa, .inl (aI, 12, .inl F))]))) [0, 1, 2, 3, 4, 5, 6, 7, 8, 9, 10, 11, 12, 13, 14, 15, 16, 17, 18, 19, 20, 22, 23, 24, 25, 26, 27, 28, 29, 30, 31, 32, 33, 34, 35, 36, 37, 38, 39, 40, 41, 42, 21] (by decide) rfl
    have hP : va_P D vwCl (HC aI aJ h (alS st) u_143.2 ++ (HC aI aJ g u_147.1 u_147.2 ++ ([(fa, .inl (aI, 12, .inl F))]))) H := hP
    have hD : va_D A (HC aI aJ h (alS st) u_143.2 ++ (HC aI aJ g u_147.1 u_147.2 ++ ([(fa, .inl (aI, 12, .inl F))]))) := hD
    have et_147 := (nr_ok htt q_147).1
    have er_147 := (nr_ok htt q_147).2
    rw [et_147] at hP hD
    have hP : va_P D vwCl (HC aI aJ h (alS st) u_143.2 ++ (HC aI aJ g (arS tt) u_147.2 ++ ([(fa, .inl (aI, 12, .inl F))]))) H := hP
    have hD : va_D A (HC aI aJ h (alS st) u_143.2 ++ (HC aI aJ g (arS tt) u_147.2 ++ ([(fa, .inl (aI, 12, .inl F))]))) := hD
    have er_147 := er_147.trans (congrArg nI u.nr)
    refine j_topi (y := nI (sNl st)) er_147 ?_
    refine lv_icmp_ne (tgt := 175) hx hb dL_law_150 (by decide) (fun c_150 => ?_) (fun c_150 => ?_)
    · exact absurd rfl c_150
    · clear c_150
      refine lv_aload_n hx hb dL_law_153 rfl (lv_at hl 1 rfl) ?_
      refine lv_aload_n hx hb dL_law_154 rfl (lv_at hl 3 rfl) ?_
      refine j_calliM (va_runS (As := [.ref (h 0), .ref fa]) (rest := []) C.fix (c_L_changed l hl0 D aI aJ aZ h fa (alS st) u_143.2 F (u2.hs) H.size) (va_cwS 2 hts gL_law_L_changed rfl rfl rfl (by decide +kernel) ⟨Nat.le_trans (m := 24) (Nat.le_of_ble_eq_true rfl) hRf, Nat.le_trans (m := 700) (Nat.le_of_ble_eq_true rfl) hRl⟩) (jxPreS hXs hA hS hN hK hP hD [0, 1, 2, 3, 4, 5, 6, 7, 8, 9, 10, 11, 12, 13, 14, 15, 16, 17, 18, 19, 20, 42] rfl rfl (by decide)) rfl rfl hl.1 rfl (lv_room (Nat.le_of_ble_eq_true rfl)) dL_law_155 ⟨by omega, by omega⟩) hA hP hD hS [0, 1, 2, 3, 4, 5, 6, 7, 8, 9, 10, 11, 12, 13, 14, 15, 16, 17, 18, 19, 20, 42] [21, 22, 23, 24, 25, 26, 27, 28, 29, 30, 31, 32, 33, 34, 35, 36, 37, 38, 39, 40, 41] (wr := HC aI aJ g (arS tt) u_147.2) rfl rfl (by decide) (by decide) (fun r_155 u_155 H locs q_155 hP hD hS => ?_)
      have hP := hP.sub (ws' := HC aI aJ h (alS st) u_155 ++ (HC aI aJ g (arS tt) u_147.2 ++ ([(fa, .inl (aI, 12, .inl (nf F (sL (alS st)) (sNl (alS st)))))]))) [21, 22, 23, 24, 25, 26, 27, 28, 29, 30, 31, 32, 33, 34, 35, 36, 37, 38, 39, 40, 41, 0, 1, 2, 3, 4, 5, 6, 7, 8, 9, 10, 11, 12, 13, 14, 15, 16, 17, 18, 19, 20, 42] rfl
      have hD := hD.sub (ws' := HC aI aJ h (alS st) u_155 ++ (HC aI aJ g (arS tt) u_147.2 ++ ([(fa, .inl (aI, 12, .inl (nf F (sL (alS st)) (sNl (alS st)))))]))) [21, 22, 23, 24, 25, 26, 27, 28, 29, 30, 31, 32, 33, 34, 35, 36, 37, 38, 39, 40, 41, 0, 1, 2, 3, 4, 5, 6, 7, 8, 9, 10, 11, 12, 13, 14, 15, 16, 17, 18, 19, 20, 42] (by decide) rfl
      have hP : va_P D vwCl (HC aI aJ h (alS st) u_155 ++ (HC aI aJ g (arS tt) u_147.2 ++ ([(fa, .inl (aI, 12, .inl (nf F (sL (alS st)) (sNl (alS st)))))]))) H := hP
      have hD : va_D A (HC aI aJ h (alS st) u_155 ++ (HC aI aJ g (arS tt) u_147.2 ++ ([(fa, .inl (aI, 12, .inl (nf F (sL (alS st)) (sNl (alS st)))))]))) := hD
      refine j_topi (y := nI 1) (q_155.trans (congrArg nI hch)) ?_
      refine lv_iconst (v := nI 1) hx hb dL_law_158 (by decide) ?_
      refine lv_icmp_ne (tgt := 175) hx hb dL_law_159 (by decide) (fun c_159 => ?_) (fun c_159 => ?_)
      · exact absurd rfl c_159
      · clear c_159
        refine lv_aload_n hx hb dL_law_162 rfl (lv_at hl 1 rfl) ?_
        refine j_calli (va_runV (As := []) (rest := []) C.fix (k_size l D aI aJ aZ h (alS st) u_155 u2.hs H.size) (cwV 0 hts gL_law_X6_size rfl rfl rfl (by decide +kernel) ⟨Nat.le_trans (m := 24) (Nat.le_of_ble_eq_true rfl) hRf, Nat.le_trans (m := 700) (Nat.le_of_ble_eq_true rfl) hRl⟩) (jPreV hN hK hP hD [0, 1, 2, 3, 4, 5, 6, 7, 8, 9, 10, 11, 12, 13, 14, 15, 16, 17, 18, 19, 20] rfl rfl (by decide) (ci := 6) (q0 := 0) rfl rfl) rfl rfl hl.1 rfl (lv_room (Nat.le_of_ble_eq_true rfl)) dL_law_163 ⟨by omega, by omega⟩) hA hP hD hS [0, 1, 2, 3, 4, 5, 6, 7, 8, 9, 10, 11, 12, 13, 14, 15, 16, 17, 18, 19, 20] [21, 22, 23, 24, 25, 26, 27, 28, 29, 30, 31, 32, 33, 34, 35, 36, 37, 38, 39, 40, 41, 42] (wr := HC aI aJ g (arS tt) u_147.2 ++ ([(fa, .inl (aI, 12, .inl (nf F (sL (alS st)) (sNl (alS st)))))])) rfl rfl (by decide) (by decide) (fun r_163 u_163 H locs q_163 hP hD hS => ?_)
        have hP := hP.sub (ws' := HC aI aJ h (alS st) u_163 ++ (HC aI aJ g (arS tt) u_147.2 ++ ([(fa, .inl (aI, 12, .inl (nf F (sL (alS st)) (sNl (alS st)))))]))) [22, 23, 24, 25, 26, 27, 28, 29, 30, 31, 32, 33, 34, 35, 36, 37, 38, 39, 40, 41, 42, 0, 1, 2, 3, 4, 5, 6, 7, 8, 9, 10, 11, 12, 13, 14, 15, 16, 17, 18, 19, 20, 21] rfl
        have hD := hD.sub (ws' := HC aI aJ h (alS st) u_163 ++ (HC aI aJ g (arS tt) u_147.2 ++ ([(fa, .inl (aI, 12, .inl (nf F (sL (alS st)) (sNl (alS st)))))]))) [22, 23, 24, 25, 26, 27, 28, 29, 30, 31, 32, 33, 34, 35, 36, 37, 38, 39, 40, 41, 42, 0, 1, 2, 3, 4, 5, 6, 7, 8, 9, 10, 11, 12, 13, 14, 15, 16, 17, 18, 19, 20, 21] (by decide) rfl
        have hP : va_P D vwCl (HC aI aJ h (alS st) u_163 ++ (HC aI aJ g (arS tt) u_147.2 ++ ([(fa, .inl (aI, 12, .inl (nf F (sL (alS st)) (sNl (alS st)))))]))) H := hP
        have hD : va_D A (HC aI aJ h (alS st) u_163 ++ (HC aI aJ g (arS tt) u_147.2 ++ ([(fa, .inl (aI, 12, .inl (nf F (sL (alS st)) (sNl (alS st)))))]))) := hD
        refine j_topi (y := nI (sN st)) (q_163) ?_
        refine lv_iload hx hb dL_law_166 (lv_at hl 11 rfl) ?_
        refine lv_icmp_ne (tgt := 175) hx hb dL_law_168 (by decide) (fun c_168 => ?_) (fun c_168 => ?_)
        · exact absurd rfl c_168
        · clear c_168
          refine lv_iconst (v := nI 1) hx hb dL_law_171 (by decide) ?_
          refine lv_goto (tgt := 176) hx hb dL_law_172 (by decide) ?_
          refine lv_istore (lv' := [(6, .int (nI 1)), (0, .ref b), (1, .ref (h 0)), (2, .ref (g 0)), (3, .ref fa), (4, .int (nI th)), (5, .int (nI wd)), (7, .int (nI k)), (8, .int (nI x)), (9, .int (nI (x / 16))), (10, .int (nI (x % 16))), (11, .int (nI (sN st)))]) hx hb dL_law_176 hl (by decide) rfl (fun ls hl => ?_)
          refine lv_goto (tgt := 568) hx hb dL_law_178 (by decide) ?_
          have hl := lv_sub (l' := [(0, .ref b), (1, .ref (h 0)), (2, .ref (g 0)), (3, .ref fa), (4, .int (nI th)), (5, .int (nI wd)), (6, .int (nI 1)), (7, .int (nI k)), (8, .int (nI x)), (9, .int (nI (x / 16)))]) hl [1, 2, 3, 4, 5, 6, 0, 7, 8, 9] rfl
          exact kk (alS st) (arS tt) u_163 u_147.2 (nf F (sL (alS st)) (sNl (alS st))) H _ ls _ _ u2 (fun z hz1 => by
              have hz1 : sNl st + 1 ≤ z := hz1
              rw [nf_out (show sNl (alS st) ≤ z from hz1)]
              exact hz z (by omega)) hP hD hS hl (by omega) (by omega)
set_option maxHeartbeats 4000000 in
set_option maxRecDepth 100000 in
theorem la_D  (l : Launch) (hl0 : l.stackTraces = false) (hRf : 24 ≤ R.frames) (hRl : 700 ≤ R.locals) (C : jC p s m meth c cL_law 18 (some .boolean) RL wsL_law D (jT aI aJ aZ) args A nm) (hXs : jXs A s s.heap) (u : TU st tt) (hz : ∀ z, sNl st ≤ z → F z = 0) (hn9 : ∀ z, z < sNl st → F z = pv (sL st z)) (hrt : sNr st < 12) (hP : va_P D vwCl (HC aI aJ h st j ++ (HC aI aJ g tt jt ++ ([(fa, .inl (aI, 12, .inl F))]))) H) (hD : va_D A (HC aI aJ h st j ++ (HC aI aJ g tt jt ++ ([(fa, .inl (aI, 12, .inl F))])))) (hS : va_S A s.heap H locs) (hl : lv_has ls 18 [(0, .ref b), (1, .ref (h 0)), (2, .ref (g 0)), (3, .ref fa), (4, .int (nI th)), (5, .int (nI wd)), (6, .int (nI 1)), (7, .int (nI k)), (8, .int (nI x)), (9, .int (nI (x / 16))), (10, .int (nI (x % 16))), (11, .int (nI (sN st)))]) (hRc : cells + 29 ≤ R.cells) (hRs : slots + 174 ≤ R.slots) (kk : ∀ (st tt : St) (j jt : Jk) (F : Nat → Int32) (H : Heap) (locs : List Loc) (ls : Array Slot) (c1 s1 : Nat), (TU st tt) → (∀ z, sNl st ≤ z → F z = 0) → va_P D vwCl (HC aI aJ h st j ++ (HC aI aJ g tt jt ++ ([(fa, .inl (aI, 12, .inl F))]))) H → va_D A (HC aI aJ h st j ++ (HC aI aJ g tt jt ++ ([(fa, .inl (aI, 12, .inl F))]))) → va_S A s.heap H locs → lv_has ls 18 [(0, .ref b), (1, .ref (h 0)), (2, .ref (g 0)), (3, .ref fa), (4, .int (nI th)), (5, .int (nI wd)), (6, .int (nI 1)), (7, .int (nI k)), (8, .int (nI x)), (9, .int (nI (x / 16)))] → c1 ≤ cells + 29 → s1 ≤ slots + 174 → W p l e R s m args below meth c H locs c1 s1 Q (F0 m 568 ls [])) : W p l e R s m args below meth c H locs cells slots Q (F0 m 204 ls []) := by
  obtain ⟨hx, hb, hml, hown, hts, hK, hA, hlocks, hr, hn, hN⟩ := id C
  have hi := u.hs
  have hj := u.ht
  have hnl := u.hnl
  have hnr := u.hnr
  have hmL := u.hs.b12
  have htl : sNl tt ≤ 12 := u.ht.1
  have htr : sNr tt ≤ 12 := u.ht.2.1
  have htt : sNl tt < 12 := by rw [u.nl]; exact hrt
  have u2 := u.ar hrt
  refine lv_iload hx hb dL_law_204 (lv_at hl 6 rfl) ?_
  refine lv_if_eq (tgt := 241) hx hb dL_law_206 (by decide) (fun c_206 => ?_) (fun c_206 => ?_)
  · exact absurd c_206 (by decide)
  · clear c_206
    refine lv_aload_n hx hb dL_law_209 rfl (lv_at hl 1 rfl) ?_
    refine j_calliM (vx_runSW (As := [.ref (h 0)]) (rest := []) C.fix (c_L_newRight l hl0 D aI aJ aZ h st j  hi H.size) (vx_cwSW 1 hts gL_law_L_newRight rfl rfl rfl (by decide +kernel) ⟨Nat.le_trans (m := 24) (Nat.le_of_ble_eq_true rfl) hRf, Nat.le_trans (m := 700) (Nat.le_of_ble_eq_true rfl) hRl⟩) (jxPreS hXs hA hS hN hK hP hD [0, 1, 2, 3, 4, 5, 6, 7, 8, 9, 10, 11, 12, 13, 14, 15, 16, 17, 18, 19, 20] rfl rfl (by decide)) rfl rfl hl.1 rfl (lv_room (Nat.le_of_ble_eq_true rfl)) dL_law_210 ⟨by omega, by omega⟩) hA hP hD hS [0, 1, 2, 3, 4, 5, 6, 7, 8, 9, 10, 11, 12, 13, 14, 15, 16, 17, 18, 19, 20] [21, 22, 23, 24, 25, 26, 27, 28, 29, 30, 31, 32, 33, 34, 35, 36, 37, 38, 39, 40, 41, 42] (wr := HC aI aJ g tt jt ++ ([(fa, .inl (aI, 12, .inl F))])) rfl rfl (by decide) (by decide) (fun r_210 u_210 H locs q_210 hP hD hS => ?_)
    have hP := hP.sub (ws' := HC aI aJ h u_210.1 u_210.2 ++ (HC aI aJ g tt jt ++ ([(fa, .inl (aI, 12, .inl F))]))) [22, 23, 24, 25, 26, 27, 28, 29, 30, 31, 32, 33, 34, 35, 36, 37, 38, 39, 40, 41, 42, 0, 1, 2, 3, 4, 5, 6, 7, 8, 9, 10, 11, 12, 13, 14, 15, 16, 17, 18, 19, 20, 21] rfl
    have hD := hD.sub (ws' := HC aI aJ h u_210.1 u_210.2 ++ (HC aI aJ g tt jt ++ ([(fa, .inl (aI, 12, .inl F))]))) [22, 23, 24, 25, 26, 27, 28, 29, 30, 31, 32, 33, 34, 35, 36, 37, 38, 39, 40, 41, 42, 0, 1, 2, 3, 4, 5, 6, 7, 8, 9, 10, 11, 12, 13, 14, 15, 16, 17, 18, 19, 20, 21] (by decide) rfl
    have hP : va_P D vwCl (HC aI aJ h u_210.1 u_210.2 ++ (HC aI aJ g tt jt ++ ([(fa, .inl (aI, 12, .inl F))]))) H := hP
    have hD : va_D A (HC aI aJ h u_210.1 u_210.2 ++ (HC aI aJ g tt jt ++ ([(fa, .inl (aI, 12, .inl F))]))) := hD
    have et_210 := (nr_ok hrt q_210).1
    have er_210 := (nr_ok hrt q_210).2
    rw [et_210] at hP hD
    have hP : va_P D vwCl (HC aI aJ h (arS st) u_210.2 ++ (HC aI aJ g tt jt ++ ([(fa, .inl (aI, 12, .inl F))]))) H := hP
    have hD : va_D A (HC aI aJ h (arS st) u_210.2 ++ (HC aI aJ g tt jt ++ ([(fa, .inl (aI, 12, .inl F))]))) := hD
    refine j_topi (y := nI (sNr st)) er_210 ?_
    refine lv_aload_n hx hb dL_law_213 rfl (lv_at hl 2 rfl) ?_
    refine j_calliM (vx_runSW (As := [.ref (g 0)]) (rest := [.int (nI (sNr st))]) C.fix (c_L_newLeft l hl0 D aI aJ aZ g tt jt  hj H.size) (vx_cwSW 1 hts gL_law_L_newLeft rfl rfl rfl (by decide +kernel) ⟨Nat.le_trans (m := 24) (Nat.le_of_ble_eq_true rfl) hRf, Nat.le_trans (m := 700) (Nat.le_of_ble_eq_true rfl) hRl⟩) (jxPreS hXs hA hS hN hK hP hD [21, 22, 23, 24, 25, 26, 27, 28, 29, 30, 31, 32, 33, 34, 35, 36, 37, 38, 39, 40, 41] rfl rfl (by decide)) rfl rfl hl.1 rfl (lv_room (Nat.le_of_ble_eq_true rfl)) dL_law_214 ⟨by omega, by omega⟩) hA hP hD hS [21, 22, 23, 24, 25, 26, 27, 28, 29, 30, 31, 32, 33, 34, 35, 36, 37, 38, 39, 40, 41] [0, 1, 2, 3, 4, 5, 6, 7, 8, 9, 10, 11, 12, 13, 14, 15, 16, 17, 18, 19, 20, 42] (wr := HC aI aJ h (arS st) u_210.2 ++ ([(fa, .inl (aI, 12, .inl F))])) rfl rfl (by decide) (by decide) (fun r_214 u_214 H locs q_214 hP hD hS => ?_)
    have hP := hP.sub (ws' := HC aI aJ h (arS st) u_210.2 ++ (HC aI aJ g u_214.1 u_214.2 ++ ([(fa, .inl (aI, 12, .inl F))]))) [0, 1, 2, 3, 4, 5, 6, 7, 8, 9, 10, 11, 12, 13, 14, 15, 16, 17, 18, 19, 20, 22, 23, 24, 25, 26, 27, 28, 29, 30, 31, 32, 33, 34, 35, 36, 37, 38, 39, 40, 41, 42, 21] rfl
    have hD := hD.sub (ws' := HC aI aJ h (arS st) u_210.2 ++ (HC aI aJ g u_214.1 u_214.2 ++ ([(fa, .inl (aI, 12, .inl F))]))) [0, 1, 2, 3, 4, 5, 6, 7, 8, 9, 10, 11, 12, 13, 14, 15, 16, 17, 18, 19, 20, 22, 23, 24, 25, 26, 27, 28, 29, 30, 31, 32, 33, 34, 35, 36, 37, 38, 39, 40, 41, 42, 21] (by decide) rfl
    have hP : va_P D vwCl (HC aI aJ h (arS st) u_210.2 ++ (HC aI aJ g u_214.1 u_214.2 ++ ([(fa, .inl (aI, 12, .inl F))]))) H := hP
    have hD : va_D A (HC aI aJ h (arS st) u_210.2 ++ (HC aI aJ g u_214.1 u_214.2 ++ ([(fa, .inl (aI, 12, .inl F))]))) := hD
    have et_214 := (nl_ok htt q_214).1
    have er_214 := (nl_ok htt q_214).2
    rw [et_214] at hP hD
    have hP : va_P D vwCl (HC aI aJ h (arS st) u_210.2 ++ (HC aI aJ g (alS tt) u_214.2 ++ ([(fa, .inl (aI, 12, .inl F))]))) H := hP
    have hD : va_D A (HC aI aJ h (arS st) u_210.2 ++ (HC aI aJ g (alS tt) u_214.2 ++ ([(fa, .inl (aI, 12, .inl F))]))) := hD
    have er_214 := er_214.trans (congrArg nI u.nl)
    refine j_topi (y := nI (sNr st)) er_214 ?_
    refine lv_icmp_ne (tgt := 241) hx hb dL_law_217 (by decide) (fun c_217 => ?_) (fun c_217 => ?_)
    · exact absurd rfl c_217
    · clear c_217
      refine lv_aload_n hx hb dL_law_220 rfl (lv_at hl 1 rfl) ?_
      refine lv_aload_n hx hb dL_law_221 rfl (lv_at hl 3 rfl) ?_
      refine j_calliM (va_runS (As := [.ref (h 0), .ref fa]) (rest := []) C.fix (c_L_changed l hl0 D aI aJ aZ h fa (arS st) u_210.2 F (u2.hs) H.size) (va_cwS 2 hts gL_law_L_changed rfl rfl rfl (by decide +kernel) ⟨Nat.le_trans (m := 24) (Nat.le_of_ble_eq_true rfl) hRf, Nat.le_trans (m := 700) (Nat.le_of_ble_eq_true rfl) hRl⟩) (jxPreS hXs hA hS hN hK hP hD [0, 1, 2, 3, 4, 5, 6, 7, 8, 9, 10, 11, 12, 13, 14, 15, 16, 17, 18, 19, 20, 42] rfl rfl (by decide)) rfl rfl hl.1 rfl (lv_room (Nat.le_of_ble_eq_true rfl)) dL_law_222 ⟨by omega, by omega⟩) hA hP hD hS [0, 1, 2, 3, 4, 5, 6, 7, 8, 9, 10, 11, 12, 13, 14, 15, 16, 17, 18, 19, 20, 42] [21, 22, 23, 24, 25, 26, 27, 28, 29, 30, 31, 32, 33, 34, 35, 36, 37, 38, 39, 40, 41] (wr := HC aI aJ g (alS tt) u_214.2) rfl rfl (by decide) (by decide) (fun r_222 u_222 H locs q_222 hP hD hS => ?_)
      have hP := hP.sub (ws' := HC aI aJ h (arS st) u_222 ++ (HC aI aJ g (alS tt) u_214.2 ++ ([(fa, .inl (aI, 12, .inl (nf F (sL (arS st)) (sNl (arS st)))))]))) [21, 22, 23, 24, 25, 26, 27, 28, 29, 30, 31, 32, 33, 34, 35, 36, 37, 38, 39, 40, 41, 0, 1, 2, 3, 4, 5, 6, 7, 8, 9, 10, 11, 12, 13, 14, 15, 16, 17, 18, 19, 20, 42] rfl
      have hD := hD.sub (ws' := HC aI aJ h (arS st) u_222 ++ (HC aI aJ g (alS tt) u_214.2 ++ ([(fa, .inl (aI, 12, .inl (nf F (sL (arS st)) (sNl (arS st)))))]))) [21, 22, 23, 24, 25, 26, 27, 28, 29, 30, 31, 32, 33, 34, 35, 36, 37, 38, 39, 40, 41, 0, 1, 2, 3, 4, 5, 6, 7, 8, 9, 10, 11, 12, 13, 14, 15, 16, 17, 18, 19, 20, 42] (by decide) rfl
      have hP : va_P D vwCl (HC aI aJ h (arS st) u_222 ++ (HC aI aJ g (alS tt) u_214.2 ++ ([(fa, .inl (aI, 12, .inl (nf F (sL (arS st)) (sNl (arS st)))))]))) H := hP
      have hD : va_D A (HC aI aJ h (arS st) u_222 ++ (HC aI aJ g (alS tt) u_214.2 ++ ([(fa, .inl (aI, 12, .inl (nf F (sL (arS st)) (sNl (arS st)))))]))) := hD
      refine j_topi (y := nI 0) (q_222.trans (congrArg nI (chg_0 hn9))) ?_
      refine lv_if_ne (tgt := 241) hx hb dL_law_225 (by decide) (fun c_225 => ?_) (fun c_225 => ?_)
      · exact absurd c_225 (by decide)
      · clear c_225
        refine lv_aload_n hx hb dL_law_228 rfl (lv_at hl 1 rfl) ?_
        refine j_calli (va_runV (As := []) (rest := []) C.fix (k_size l D aI aJ aZ h (arS st) u_222 u2.hs H.size) (cwV 0 hts gL_law_X6_size rfl rfl rfl (by decide +kernel) ⟨Nat.le_trans (m := 24) (Nat.le_of_ble_eq_true rfl) hRf, Nat.le_trans (m := 700) (Nat.le_of_ble_eq_true rfl) hRl⟩) (jPreV hN hK hP hD [0, 1, 2, 3, 4, 5, 6, 7, 8, 9, 10, 11, 12, 13, 14, 15, 16, 17, 18, 19, 20] rfl rfl (by decide) (ci := 6) (q0 := 0) rfl rfl) rfl rfl hl.1 rfl (lv_room (Nat.le_of_ble_eq_true rfl)) dL_law_229 ⟨by omega, by omega⟩) hA hP hD hS [0, 1, 2, 3, 4, 5, 6, 7, 8, 9, 10, 11, 12, 13, 14, 15, 16, 17, 18, 19, 20] [21, 22, 23, 24, 25, 26, 27, 28, 29, 30, 31, 32, 33, 34, 35, 36, 37, 38, 39, 40, 41, 42] (wr := HC aI aJ g (alS tt) u_214.2 ++ ([(fa, .inl (aI, 12, .inl (nf F (sL (arS st)) (sNl (arS st)))))])) rfl rfl (by decide) (by decide) (fun r_229 u_229 H locs q_229 hP hD hS => ?_)
        have hP := hP.sub (ws' := HC aI aJ h (arS st) u_229 ++ (HC aI aJ g (alS tt) u_214.2 ++ ([(fa, .inl (aI, 12, .inl (nf F (sL (arS st)) (sNl (arS st)))))]))) [22, 23, 24, 25, 26, 27, 28, 29, 30, 31, 32, 33, 34, 35, 36, 37, 38, 39, 40, 41, 42, 0, 1, 2, 3, 4, 5, 6, 7, 8, 9, 10, 11, 12, 13, 14, 15, 16, 17, 18, 19, 20, 21] rfl
        have hD := hD.sub (ws' := HC aI aJ h (arS st) u_229 ++ (HC aI aJ g (alS tt) u_214.2 ++ ([(fa, .inl (aI, 12, .inl (nf F (sL (arS st)) (sNl (arS st)))))]))) [22, 23, 24, 25, 26, 27, 28, 29, 30, 31, 32, 33, 34, 35, 36, 37, 38, 39, 40, 41, 42, 0, 1, 2, 3, 4, 5, 6, 7, 8, 9, 10, 11, 12, 13, 14, 15, 16, 17, 18, 19, 20, 21] (by decide) rfl
        have hP : va_P D vwCl (HC aI aJ h (arS st) u_229 ++ (HC aI aJ g (alS tt) u_214.2 ++ ([(fa, .inl (aI, 12, .inl (nf F (sL (arS st)) (sNl (arS st)))))]))) H := hP
        have hD : va_D A (HC aI aJ h (arS st) u_229 ++ (HC aI aJ g (alS tt) u_214.2 ++ ([(fa, .inl (aI, 12, .inl (nf F (sL (arS st)) (sNl (arS st)))))]))) := hD
        refine j_topi (y := nI (sN st)) (q_229) ?_
        refine lv_iload hx hb dL_law_232 (lv_at hl 11 rfl) ?_
        refine lv_icmp_ne (tgt := 241) hx hb dL_law_234 (by decide) (fun c_234 => ?_) (fun c_234 => ?_)
        · exact absurd rfl c_234
        · clear c_234
          refine lv_iconst (v := nI 1) hx hb dL_law_237 (by decide) ?_
          refine lv_goto (tgt := 242) hx hb dL_law_238 (by decide) ?_
          refine lv_istore (lv' := [(6, .int (nI 1)), (0, .ref b), (1, .ref (h 0)), (2, .ref (g 0)), (3, .ref fa), (4, .int (nI th)), (5, .int (nI wd)), (7, .int (nI k)), (8, .int (nI x)), (9, .int (nI (x / 16))), (10, .int (nI (x % 16))), (11, .int (nI (sN st)))]) hx hb dL_law_242 hl (by decide) rfl (fun ls hl => ?_)
          refine lv_goto (tgt := 568) hx hb dL_law_244 (by decide) ?_
          have hl := lv_sub (l' := [(0, .ref b), (1, .ref (h 0)), (2, .ref (g 0)), (3, .ref fa), (4, .int (nI th)), (5, .int (nI wd)), (6, .int (nI 1)), (7, .int (nI k)), (8, .int (nI x)), (9, .int (nI (x / 16)))]) hl [1, 2, 3, 4, 5, 6, 0, 7, 8, 9] rfl
          exact kk (arS st) (alS tt) u_229 u_214.2 (nf F (sL (arS st)) (sNl (arS st))) H _ ls _ _ u2 (fun z hz1 => by
              rw [nf_out (show sNl (arS st) ≤ z from hz1)]
              exact hz z hz1) hP hD hS hl (by omega) (by omega)
set_option maxHeartbeats 4000000 in
set_option maxRecDepth 100000 in
theorem la_E  (l : Launch) (hl0 : l.stackTraces = false) (hRf : 24 ≤ R.frames) (hRl : 700 ≤ R.locals) (C : jC p s m meth c cL_law 18 (some .boolean) RL wsL_law D (jT aI aJ aZ) args A nm) (hXs : jXs A s s.heap) (u : TU st tt) (hz : ∀ z, sNl st ≤ z → F z = 0) (hn9 : ∀ z, z < sNl st → F z = pv (sL st z)) (hP : va_P D vwCl (HC aI aJ h st j ++ (HC aI aJ g tt jt ++ ([(fa, .inl (aI, 12, .inl F))]))) H) (hD : va_D A (HC aI aJ h st j ++ (HC aI aJ g tt jt ++ ([(fa, .inl (aI, 12, .inl F))])))) (hS : va_S A s.heap H locs) (hl : lv_has ls 18 [(0, .ref b), (1, .ref (h 0)), (2, .ref (g 0)), (3, .ref fa), (4, .int (nI th)), (5, .int (nI wd)), (6, .int (nI 1)), (7, .int (nI k)), (8, .int (nI x)), (9, .int (nI (x / 16))), (10, .int (nI (x % 16))), (11, .int (nI (sN st)))]) (hRc : cells + 29 ≤ R.cells) (hRs : slots + 174 ≤ R.slots) (kk : ∀ (st tt : St) (j jt : Jk) (F : Nat → Int32) (H : Heap) (locs : List Loc) (ls : Array Slot) (c1 s1 : Nat), (TU st tt) → (∀ z, sNl st ≤ z → F z = 0) → va_P D vwCl (HC aI aJ h st j ++ (HC aI aJ g tt jt ++ ([(fa, .inl (aI, 12, .inl F))]))) H → va_D A (HC aI aJ h st j ++ (HC aI aJ g tt jt ++ ([(fa, .inl (aI, 12, .inl F))]))) → va_S A s.heap H locs → lv_has ls 18 [(0, .ref b), (1, .ref (h 0)), (2, .ref (g 0)), (3, .ref fa), (4, .int (nI th)), (5, .int (nI wd)), (6, .int (nI 1)), (7, .int (nI k)), (8, .int (nI x)), (9, .int (nI (x / 16)))] → c1 ≤ cells + 29 → s1 ≤ slots + 174 → W p l e R s m args below meth c H locs c1 s1 Q (F0 m 568 ls [])) : W p l e R s m args below meth c H locs cells slots Q (F0 m 254 ls []) := by
  obtain ⟨hx, hb, hml, hown, hts, hK, hA, hlocks, hr, hn, hN⟩ := id C
  have hi := u.hs
  have hj := u.ht
  have hnl := u.hnl
  have hnr := u.hnr
  have hmL := u.hs.b12
  have htl : sNl tt ≤ 12 := u.ht.1
  have htr : sNr tt ≤ 12 := u.ht.2.1
  have u2 := u.rb
  have u3 : TU (rbS (rbS st)) (rbS tt) := ⟨u2.hs.rb, u2.ht, u2.e, u2.nl, u2.nr, u2.ne⟩
  refine lv_aload_n hx hb dL_law_254 rfl (lv_at hl 1 rfl) ?_
  refine j_calli (va_runV (As := []) (rest := []) C.fix (k_rebuild l D aI aJ aZ h st j hi H.size) (cwV 0 hts gL_law_X6_rebuild rfl rfl rfl (by decide +kernel) ⟨Nat.le_trans (m := 24) (Nat.le_of_ble_eq_true rfl) hRf, Nat.le_trans (m := 700) (Nat.le_of_ble_eq_true rfl) hRl⟩) (jPreV hN hK hP hD [0, 1, 2, 3, 4, 5, 6, 7, 8, 9, 10, 11, 12, 13, 14, 15, 16, 17, 18, 19, 20] rfl rfl (by decide) (ci := 6) (q0 := 0) rfl rfl) rfl rfl hl.1 rfl (lv_room (Nat.le_of_ble_eq_true rfl)) dL_law_255 ⟨by omega, by omega⟩) hA hP hD hS [0, 1, 2, 3, 4, 5, 6, 7, 8, 9, 10, 11, 12, 13, 14, 15, 16, 17, 18, 19, 20] [21, 22, 23, 24, 25, 26, 27, 28, 29, 30, 31, 32, 33, 34, 35, 36, 37, 38, 39, 40, 41, 42] (wr := HC aI aJ g tt jt ++ ([(fa, .inl (aI, 12, .inl F))])) rfl rfl (by decide) (by decide) (fun r_255 u_255 H locs q_255 hP hD hS => ?_)
  have hP := hP.sub (ws' := HC aI aJ h (rbS st) u_255 ++ (HC aI aJ g tt jt ++ ([(fa, .inl (aI, 12, .inl F))]))) [22, 23, 24, 25, 26, 27, 28, 29, 30, 31, 32, 33, 34, 35, 36, 37, 38, 39, 40, 41, 42, 0, 1, 2, 3, 4, 5, 6, 7, 8, 9, 10, 11, 12, 13, 14, 15, 16, 17, 18, 19, 20, 21] rfl
  have hD := hD.sub (ws' := HC aI aJ h (rbS st) u_255 ++ (HC aI aJ g tt jt ++ ([(fa, .inl (aI, 12, .inl F))]))) [22, 23, 24, 25, 26, 27, 28, 29, 30, 31, 32, 33, 34, 35, 36, 37, 38, 39, 40, 41, 42, 0, 1, 2, 3, 4, 5, 6, 7, 8, 9, 10, 11, 12, 13, 14, 15, 16, 17, 18, 19, 20, 21] (by decide) rfl
  have hP : va_P D vwCl (HC aI aJ h (rbS st) u_255 ++ (HC aI aJ g tt jt ++ ([(fa, .inl (aI, 12, .inl F))]))) H := hP
  have hD : va_D A (HC aI aJ h (rbS st) u_255 ++ (HC aI aJ g tt jt ++ ([(fa, .inl (aI, 12, .inl F))]))) := hD
  refine j_topi (y := nI (dif (sNl st) (sL st) (sL (rbS st)))) (q_255) ?_
  refine lv_istore (lv' := [(12, .int (nI (dif (sNl st) (sL st) (sL (rbS st))))), (0, .ref b), (1, .ref (h 0)), (2, .ref (g 0)), (3, .ref fa), (4, .int (nI th)), (5, .int (nI wd)), (6, .int (nI 1)), (7, .int (nI k)), (8, .int (nI x)), (9, .int (nI (x / 16))), (10, .int (nI (x % 16))), (11, .int (nI (sN st)))]) hx hb dL_law_258 hl (by decide) rfl (fun ls hl => ?_)
  refine lv_iload hx hb dL_law_260 (lv_at hl 7 rfl) ?_
  refine lv_if_eq (tgt := 302) hx hb dL_law_262 (by decide) (fun c_262 => ?_) (fun c_262 => ?_)
  · exact absurd c_262 (by decide)
  · clear c_262
    refine lv_aload_n hx hb dL_law_265 rfl (lv_at hl 3 rfl) ?_
    refine j_calli (va_runV (As := []) (rest := []) C.fix (k_rebuild l D aI aJ aZ g tt jt hj H.size) (cwV 0 hts gL_law_X6_rebuild rfl rfl rfl (by decide +kernel) ⟨Nat.le_trans (m := 24) (Nat.le_of_ble_eq_true rfl) hRf, Nat.le_trans (m := 700) (Nat.le_of_ble_eq_true rfl) hRl⟩) (jPreV hN hK hP hD [21, 22, 23, 24, 25, 26, 27, 28, 29, 30, 31, 32, 33, 34, 35, 36, 37, 38, 39, 40, 41] rfl rfl (by decide) (ci := 6) (q0 := 21) rfl rfl) rfl rfl hl.1 rfl (lv_room (Nat.le_of_ble_eq_true rfl)) dL_law_266 ⟨by omega, by omega⟩) hA hP hD hS [21, 22, 23, 24, 25, 26, 27, 28, 29, 30, 31, 32, 33, 34, 35, 36, 37, 38, 39, 40, 41] [0, 1, 2, 3, 4, 5, 6, 7, 8, 9, 10, 11, 12, 13, 14, 15, 16, 17, 18, 19, 20, 42] (wr := HC aI aJ h (rbS st) u_255 ++ ([(fa, .inl (aI, 12, .inl F))])) rfl rfl (by decide) (by decide) (fun r_266 u_266 H locs q_266 hP hD hS => ?_)
    have hP := hP.sub (ws' := HC aI aJ h (rbS st) u_255 ++ (HC aI aJ g (rbS tt) u_266 ++ ([(fa, .inl (aI, 12, .inl F))]))) [0, 1, 2, 3, 4, 5, 6, 7, 8, 9, 10, 11, 12, 13, 14, 15, 16, 17, 18, 19, 20, 22, 23, 24, 25, 26, 27, 28, 29, 30, 31, 32, 33, 34, 35, 36, 37, 38, 39, 40, 41, 42, 21] rfl
    have hD := hD.sub (ws' := HC aI aJ h (rbS st) u_255 ++ (HC aI aJ g (rbS tt) u_266 ++ ([(fa, .inl (aI, 12, .inl F))]))) [0, 1, 2, 3, 4, 5, 6, 7, 8, 9, 10, 11, 12, 13, 14, 15, 16, 17, 18, 19, 20, 22, 23, 24, 25, 26, 27, 28, 29, 30, 31, 32, 33, 34, 35, 36, 37, 38, 39, 40, 41, 42, 21] (by decide) rfl
    have hP : va_P D vwCl (HC aI aJ h (rbS st) u_255 ++ (HC aI aJ g (rbS tt) u_266 ++ ([(fa, .inl (aI, 12, .inl F))]))) H := hP
    have hD : va_D A (HC aI aJ h (rbS st) u_255 ++ (HC aI aJ g (rbS tt) u_266 ++ ([(fa, .inl (aI, 12, .inl F))]))) := hD
    refine lv_if_lt (tgt := 302) hx hb dL_law_269 (by decide) (fun c_269 => ?_) (fun c_269 => ?_)
    · exact absurd c_269 (by rw [q_266]; exact nI_pos (Nat.lt_of_le_of_lt (cnt_le _ _) (by omega)))
    · clear c_269
      refine lv_aload_n hx hb dL_law_272 rfl (lv_at hl 2 rfl) ?_
      refine j_calli (va_runV (As := []) (rest := []) C.fix (k_size l D aI aJ aZ h (rbS st) u_255 u2.hs H.size) (cwV 0 hts gL_law_X6_size rfl rfl rfl (by decide +kernel) ⟨Nat.le_trans (m := 24) (Nat.le_of_ble_eq_true rfl) hRf, Nat.le_trans (m := 700) (Nat.le_of_ble_eq_true rfl) hRl⟩) (jPreV hN hK hP hD [0, 1, 2, 3, 4, 5, 6, 7, 8, 9, 10, 11, 12, 13, 14, 15, 16, 17, 18, 19, 20] rfl rfl (by decide) (ci := 6) (q0 := 0) rfl rfl) rfl rfl hl.1 rfl (lv_room (Nat.le_of_ble_eq_true rfl)) dL_law_273 ⟨by omega, by omega⟩) hA hP hD hS [0, 1, 2, 3, 4, 5, 6, 7, 8, 9, 10, 11, 12, 13, 14, 15, 16, 17, 18, 19, 20] [21, 22, 23, 24, 25, 26, 27, 28, 29, 30, 31, 32, 33, 34, 35, 36, 37, 38, 39, 40, 41, 42] (wr := HC aI aJ g (rbS tt) u_266 ++ ([(fa, .inl (aI, 12, .inl F))])) rfl rfl (by decide) (by decide) (fun r_273 u_273 H locs q_273 hP hD hS => ?_)
      have hP := hP.sub (ws' := HC aI aJ h (rbS st) u_273 ++ (HC aI aJ g (rbS tt) u_266 ++ ([(fa, .inl (aI, 12, .inl F))]))) [22, 23, 24, 25, 26, 27, 28, 29, 30, 31, 32, 33, 34, 35, 36, 37, 38, 39, 40, 41, 42, 0, 1, 2, 3, 4, 5, 6, 7, 8, 9, 10, 11, 12, 13, 14, 15, 16, 17, 18, 19, 20, 21] rfl
      have hD := hD.sub (ws' := HC aI aJ h (rbS st) u_273 ++ (HC aI aJ g (rbS tt) u_266 ++ ([(fa, .inl (aI, 12, .inl F))]))) [22, 23, 24, 25, 26, 27, 28, 29, 30, 31, 32, 33, 34, 35, 36, 37, 38, 39, 40, 41, 42, 0, 1, 2, 3, 4, 5, 6, 7, 8, 9, 10, 11, 12, 13, 14, 15, 16, 17, 18, 19, 20, 21] (by decide) rfl
      have hP : va_P D vwCl (HC aI aJ h (rbS st) u_273 ++ (HC aI aJ g (rbS tt) u_266 ++ ([(fa, .inl (aI, 12, .inl F))]))) H := hP
      have hD : va_D A (HC aI aJ h (rbS st) u_273 ++ (HC aI aJ g (rbS tt) u_266 ++ ([(fa, .inl (aI, 12, .inl F))]))) := hD
      refine j_topi (y := nI (sN st)) (q_273.trans (congrArg nI hi.rbn)) ?_
      refine lv_iload hx hb dL_law_276 (lv_at hl 12 rfl) ?_
      refine lv_icmp_ne (tgt := 302) hx hb dL_law_278 (by decide) (fun c_278 => ?_) (fun c_278 => ?_)
      · exact absurd rfl c_278
      · clear c_278
        refine lv_aload_n hx hb dL_law_281 rfl (lv_at hl 2 rfl) ?_
        refine lv_aload_n hx hb dL_law_282 rfl (lv_at hl 4 rfl) ?_
        refine j_calliM (va_runS (As := [.ref (h 0), .ref fa]) (rest := []) C.fix (c_L_changed l hl0 D aI aJ aZ h fa (rbS st) u_273 F (u2.hs) H.size) (va_cwS 2 hts gL_law_L_changed rfl rfl rfl (by decide +kernel) ⟨Nat.le_trans (m := 24) (Nat.le_of_ble_eq_true rfl) hRf, Nat.le_trans (m := 700) (Nat.le_of_ble_eq_true rfl) hRl⟩) (jxPreS hXs hA hS hN hK hP hD [0, 1, 2, 3, 4, 5, 6, 7, 8, 9, 10, 11, 12, 13, 14, 15, 16, 17, 18, 19, 20, 42] rfl rfl (by decide)) rfl rfl hl.1 rfl (lv_room (Nat.le_of_ble_eq_true rfl)) dL_law_283 ⟨by omega, by omega⟩) hA hP hD hS [0, 1, 2, 3, 4, 5, 6, 7, 8, 9, 10, 11, 12, 13, 14, 15, 16, 17, 18, 19, 20, 42] [21, 22, 23, 24, 25, 26, 27, 28, 29, 30, 31, 32, 33, 34, 35, 36, 37, 38, 39, 40, 41] (wr := HC aI aJ g (rbS tt) u_266) rfl rfl (by decide) (by decide) (fun r_283 u_283 H locs q_283 hP hD hS => ?_)
        have hP := hP.sub (ws' := HC aI aJ h (rbS st) u_283 ++ (HC aI aJ g (rbS tt) u_266 ++ ([(fa, .inl (aI, 12, .inl (nf F (sL (rbS st)) (sNl (rbS st)))))]))) [21, 22, 23, 24, 25, 26, 27, 28, 29, 30, 31, 32, 33, 34, 35, 36, 37, 38, 39, 40, 41, 0, 1, 2, 3, 4, 5, 6, 7, 8, 9, 10, 11, 12, 13, 14, 15, 16, 17, 18, 19, 20, 42] rfl
        have hD := hD.sub (ws' := HC aI aJ h (rbS st) u_283 ++ (HC aI aJ g (rbS tt) u_266 ++ ([(fa, .inl (aI, 12, .inl (nf F (sL (rbS st)) (sNl (rbS st)))))]))) [21, 22, 23, 24, 25, 26, 27, 28, 29, 30, 31, 32, 33, 34, 35, 36, 37, 38, 39, 40, 41, 0, 1, 2, 3, 4, 5, 6, 7, 8, 9, 10, 11, 12, 13, 14, 15, 16, 17, 18, 19, 20, 42] (by decide) rfl
        have hP : va_P D vwCl (HC aI aJ h (rbS st) u_283 ++ (HC aI aJ g (rbS tt) u_266 ++ ([(fa, .inl (aI, 12, .inl (nf F (sL (rbS st)) (sNl (rbS st)))))]))) H := hP
        have hD : va_D A (HC aI aJ h (rbS st) u_283 ++ (HC aI aJ g (rbS tt) u_266 ++ ([(fa, .inl (aI, 12, .inl (nf F (sL (rbS st)) (sNl (rbS st)))))]))) := hD
        refine j_topi (y := nI (dif (sNl st) (sL st) (sL (rbS st)))) (q_283.trans (congrArg nI (chg_dif hn9 hmL u2.hs.b12))) ?_
        refine lv_iload hx hb dL_law_286 (lv_at hl 0 rfl) ?_
        refine lv_icmp_ne (tgt := 302) hx hb dL_law_288 (by decide) (fun c_288 => ?_) (fun c_288 => ?_)
        · exact absurd rfl c_288
        · clear c_288
          refine lv_aload_n hx hb dL_law_291 rfl (lv_at hl 2 rfl) ?_
          refine j_calli (va_runV (As := []) (rest := []) C.fix (k_rebuild l D aI aJ aZ h (rbS st) u_283 u2.hs H.size) (cwV 0 hts gL_law_X6_rebuild rfl rfl rfl (by decide +kernel) ⟨Nat.le_trans (m := 24) (Nat.le_of_ble_eq_true rfl) hRf, Nat.le_trans (m := 700) (Nat.le_of_ble_eq_true rfl) hRl⟩) (jPreV hN hK hP hD [0, 1, 2, 3, 4, 5, 6, 7, 8, 9, 10, 11, 12, 13, 14, 15, 16, 17, 18, 19, 20] rfl rfl (by decide) (ci := 6) (q0 := 0) rfl rfl) rfl rfl hl.1 rfl (lv_room (Nat.le_of_ble_eq_true rfl)) dL_law_292 ⟨by omega, by omega⟩) hA hP hD hS [0, 1, 2, 3, 4, 5, 6, 7, 8, 9, 10, 11, 12, 13, 14, 15, 16, 17, 18, 19, 20] [21, 22, 23, 24, 25, 26, 27, 28, 29, 30, 31, 32, 33, 34, 35, 36, 37, 38, 39, 40, 41, 42] (wr := HC aI aJ g (rbS tt) u_266 ++ ([(fa, .inl (aI, 12, .inl (nf F (sL (rbS st)) (sNl (rbS st)))))])) rfl rfl (by decide) (by decide) (fun r_292 u_292 H locs q_292 hP hD hS => ?_)
          have hP := hP.sub (ws' := HC aI aJ h (rbS (rbS st)) u_292 ++ (HC aI aJ g (rbS tt) u_266 ++ ([(fa, .inl (aI, 12, .inl (nf F (sL (rbS st)) (sNl (rbS st)))))]))) [22, 23, 24, 25, 26, 27, 28, 29, 30, 31, 32, 33, 34, 35, 36, 37, 38, 39, 40, 41, 42, 0, 1, 2, 3, 4, 5, 6, 7, 8, 9, 10, 11, 12, 13, 14, 15, 16, 17, 18, 19, 20, 21] rfl
          have hD := hD.sub (ws' := HC aI aJ h (rbS (rbS st)) u_292 ++ (HC aI aJ g (rbS tt) u_266 ++ ([(fa, .inl (aI, 12, .inl (nf F (sL (rbS st)) (sNl (rbS st)))))]))) [22, 23, 24, 25, 26, 27, 28, 29, 30, 31, 32, 33, 34, 35, 36, 37, 38, 39, 40, 41, 42, 0, 1, 2, 3, 4, 5, 6, 7, 8, 9, 10, 11, 12, 13, 14, 15, 16, 17, 18, 19, 20, 21] (by decide) rfl
          have hP : va_P D vwCl (HC aI aJ h (rbS (rbS st)) u_292 ++ (HC aI aJ g (rbS tt) u_266 ++ ([(fa, .inl (aI, 12, .inl (nf F (sL (rbS st)) (sNl (rbS st)))))]))) H := hP
          have hD : va_D A (HC aI aJ h (rbS (rbS st)) u_292 ++ (HC aI aJ g (rbS tt) u_266 ++ ([(fa, .inl (aI, 12, .inl (nf F (sL (rbS st)) (sNl (rbS st)))))]))) := hD
          refine j_topi (y := nI 0) (q_292.trans (congrArg nI (dif_self _ _))) ?_
          refine lv_if_ne (tgt := 302) hx hb dL_law_295 (by decide) (fun c_295 => ?_) (fun c_295 => ?_)
          · exact absurd c_295 (by decide)
          · clear c_295
            refine lv_iconst (v := nI 1) hx hb dL_law_298 (by decide) ?_
            refine lv_goto (tgt := 303) hx hb dL_law_299 (by decide) ?_
            refine lv_istore (lv' := [(6, .int (nI 1)), (12, .int (nI (dif (sNl st) (sL st) (sL (rbS st))))), (0, .ref b), (1, .ref (h 0)), (2, .ref (g 0)), (3, .ref fa), (4, .int (nI th)), (5, .int (nI wd)), (7, .int (nI k)), (8, .int (nI x)), (9, .int (nI (x / 16))), (10, .int (nI (x % 16))), (11, .int (nI (sN st)))]) hx hb dL_law_303 hl (by decide) rfl (fun ls hl => ?_)
            refine lv_goto (tgt := 568) hx hb dL_law_305 (by decide) ?_
            have hl := lv_sub (l' := [(0, .ref b), (1, .ref (h 0)), (2, .ref (g 0)), (3, .ref fa), (4, .int (nI th)), (5, .int (nI wd)), (6, .int (nI 1)), (7, .int (nI k)), (8, .int (nI x)), (9, .int (nI (x / 16)))]) hl [2, 3, 4, 5, 6, 7, 0, 8, 9, 10] rfl
            exact kk (rbS (rbS st)) (rbS tt) u_292 u_266 (nf F (sL (rbS st)) (sNl (rbS st))) H _ ls _ _ u3 (fun z hz1 => by
                rw [nf_out (show sNl (rbS st) ≤ z from hz1)]
                exact hz z hz1) hP hD hS hl (by omega) (by omega)
set_option maxHeartbeats 4000000 in
set_option maxRecDepth 100000 in
theorem la_F  (l : Launch) (hl0 : l.stackTraces = false) (hRf : 24 ≤ R.frames) (hRl : 700 ≤ R.locals) (C : jC p s m meth c cL_law 18 (some .boolean) RL wsL_law D (jT aI aJ aZ) args A nm) (hXs : jXs A s s.heap) (u : TU st tt) (hl1 : 0 < sNl st) (hr1 : 0 < sNr st) (hx2 : x < 2 ^ 31) (hP : va_P D vwCl (HC aI aJ h st j ++ (HC aI aJ g tt jt ++ ([(fa, .inl (aI, 12, .inl F))]))) H) (hD : va_D A (HC aI aJ h st j ++ (HC aI aJ g tt jt ++ ([(fa, .inl (aI, 12, .inl F))])))) (hS : va_S A s.heap H locs) (hl : lv_has ls 18 [(0, .ref b), (1, .ref (h 0)), (2, .ref (g 0)), (3, .ref fa), (4, .int (nI th)), (5, .int (nI wd)), (6, .int (nI 1)), (7, .int (nI k)), (8, .int (nI x)), (9, .int (nI (x / 16))), (10, .int (nI (x % 16))), (11, .int (nI (sN st)))]) (hRc : cells + 0 ≤ R.cells) (hRs : slots + 0 ≤ R.slots) (kk : ∀ (i jj : Nat) (j jt : Jk) (H : Heap) (locs : List Loc) (ls : Array Slot) (c1 s1 : Nat), (i < sNl st) → (jj < sNr st) → va_P D vwCl (HC aI aJ h st j ++ (HC aI aJ g tt jt ++ ([(fa, .inl (aI, 12, .inl F))]))) H → va_D A (HC aI aJ h st j ++ (HC aI aJ g tt jt ++ ([(fa, .inl (aI, 12, .inl F))]))) → va_S A s.heap H locs → lv_has ls 18 [(0, .ref b), (1, .ref (h 0)), (2, .ref (g 0)), (3, .ref fa), (4, .int (nI th)), (5, .int (nI wd)), (6, .int (nI 1)), (7, .int (nI k)), (8, .int (nI x)), (9, .int (nI (x / 16))), (10, .int (nI (x % 16))), (11, .int (nI (sN st))), (12, .int (nI i)), (13, .int (nI jj))] → c1 ≤ cells + 0 → s1 ≤ slots + 0 → W p l e R s m args below meth c H locs c1 s1 Q (F0 m 329 ls [])) : W p l e R s m args below meth c H locs cells slots Q (F0 m 308 ls []) := by
  obtain ⟨hx, hb, hml, hown, hts, hK, hA, hlocks, hr, hn, hN⟩ := id C
  have hi := u.hs
  have hj := u.ht
  have hnl := u.hnl
  have hnr := u.hnr
  have hmL := u.hs.b12
  have htl : sNl tt ≤ 12 := u.ht.1
  have htr : sNr tt ≤ 12 := u.ht.2.1
  refine lv_iload hx hb dL_law_308 (lv_at hl 9 rfl) ?_
  refine lv_aload_n hx hb dL_law_310 rfl (lv_at hl 1 rfl) ?_
  refine j_calli (va_runV (As := []) (rest := [.int (nI (x / 16))]) C.fix (k_lefts l D aI aJ aZ h st j hi H.size) (cwV 0 hts gL_law_X6_lefts rfl rfl rfl (by decide +kernel) ⟨Nat.le_trans (m := 24) (Nat.le_of_ble_eq_true rfl) hRf, Nat.le_trans (m := 700) (Nat.le_of_ble_eq_true rfl) hRl⟩) (jPreV hN hK hP hD [0, 1, 2, 3, 4, 5, 6, 7, 8, 9, 10, 11, 12, 13, 14, 15, 16, 17, 18, 19, 20] rfl rfl (by decide) (ci := 6) (q0 := 0) rfl rfl) rfl rfl hl.1 rfl (lv_room (Nat.le_of_ble_eq_true rfl)) dL_law_311 ⟨by omega, by omega⟩) hA hP hD hS [0, 1, 2, 3, 4, 5, 6, 7, 8, 9, 10, 11, 12, 13, 14, 15, 16, 17, 18, 19, 20] [21, 22, 23, 24, 25, 26, 27, 28, 29, 30, 31, 32, 33, 34, 35, 36, 37, 38, 39, 40, 41, 42] (wr := HC aI aJ g tt jt ++ ([(fa, .inl (aI, 12, .inl F))])) rfl rfl (by decide) (by decide) (fun r_311 u_311 H locs q_311 hP hD hS => ?_)
  have hP := hP.sub (ws' := HC aI aJ h st u_311 ++ (HC aI aJ g tt jt ++ ([(fa, .inl (aI, 12, .inl F))]))) [22, 23, 24, 25, 26, 27, 28, 29, 30, 31, 32, 33, 34, 35, 36, 37, 38, 39, 40, 41, 42, 0, 1, 2, 3, 4, 5, 6, 7, 8, 9, 10, 11, 12, 13, 14, 15, 16, 17, 18, 19, 20, 21] rfl
  have hD := hD.sub (ws' := HC aI aJ h st u_311 ++ (HC aI aJ g tt jt ++ ([(fa, .inl (aI, 12, .inl F))]))) [22, 23, 24, 25, 26, 27, 28, 29, 30, 31, 32, 33, 34, 35, 36, 37, 38, 39, 40, 41, 42, 0, 1, 2, 3, 4, 5, 6, 7, 8, 9, 10, 11, 12, 13, 14, 15, 16, 17, 18, 19, 20, 21] (by decide) rfl
  have hP : va_P D vwCl (HC aI aJ h st u_311 ++ (HC aI aJ g tt jt ++ ([(fa, .inl (aI, 12, .inl F))]))) H := hP
  have hD : va_D A (HC aI aJ h st u_311 ++ (HC aI aJ g tt jt ++ ([(fa, .inl (aI, 12, .inl F))]))) := hD
  refine j_topi (y := nI (sNl st)) (q_311) ?_
  refine lv_irem hx hb dL_law_314 (nI_ne0 hl1 (by omega)) ?_
  refine j_topi (y := nI ((x / 16) % (sNl st))) (pk_rem (by omega) (hl1) (by omega)) ?_
  refine lv_istore (lv' := [(12, .int (nI ((x / 16) % (sNl st)))), (0, .ref b), (1, .ref (h 0)), (2, .ref (g 0)), (3, .ref fa), (4, .int (nI th)), (5, .int (nI wd)), (6, .int (nI 1)), (7, .int (nI k)), (8, .int (nI x)), (9, .int (nI (x / 16))), (10, .int (nI (x % 16))), (11, .int (nI (sN st)))]) hx hb dL_law_315 hl (by decide) rfl (fun ls hl => ?_)
  refine lv_iload hx hb dL_law_317 (lv_at hl 10 rfl) ?_
  refine lv_bipush (v := nI 12) hx hb dL_law_319 (by decide) ?_
  refine lv_idiv hx hb dL_law_321 (by decide) ?_
  refine j_topi (y := nI ((x / 16) / 12)) (pk_div (by omega) (by omega) (by omega)) ?_
  refine lv_aload_n hx hb dL_law_322 rfl (lv_at hl 2 rfl) ?_
  refine j_calli (va_runV (As := []) (rest := [.int (nI ((x / 16) / 12))]) C.fix (k_rights l D aI aJ aZ h st u_311 hi H.size) (cwV 0 hts gL_law_X6_rights rfl rfl rfl (by decide +kernel) ⟨Nat.le_trans (m := 24) (Nat.le_of_ble_eq_true rfl) hRf, Nat.le_trans (m := 700) (Nat.le_of_ble_eq_true rfl) hRl⟩) (jPreV hN hK hP hD [0, 1, 2, 3, 4, 5, 6, 7, 8, 9, 10, 11, 12, 13, 14, 15, 16, 17, 18, 19, 20] rfl rfl (by decide) (ci := 6) (q0 := 0) rfl rfl) rfl rfl hl.1 rfl (lv_room (Nat.le_of_ble_eq_true rfl)) dL_law_323 ⟨by omega, by omega⟩) hA hP hD hS [0, 1, 2, 3, 4, 5, 6, 7, 8, 9, 10, 11, 12, 13, 14, 15, 16, 17, 18, 19, 20] [21, 22, 23, 24, 25, 26, 27, 28, 29, 30, 31, 32, 33, 34, 35, 36, 37, 38, 39, 40, 41, 42] (wr := HC aI aJ g tt jt ++ ([(fa, .inl (aI, 12, .inl F))])) rfl rfl (by decide) (by decide) (fun r_323 u_323 H locs q_323 hP hD hS => ?_)
  have hP := hP.sub (ws' := HC aI aJ h st u_323 ++ (HC aI aJ g tt jt ++ ([(fa, .inl (aI, 12, .inl F))]))) [22, 23, 24, 25, 26, 27, 28, 29, 30, 31, 32, 33, 34, 35, 36, 37, 38, 39, 40, 41, 42, 0, 1, 2, 3, 4, 5, 6, 7, 8, 9, 10, 11, 12, 13, 14, 15, 16, 17, 18, 19, 20, 21] rfl
  have hD := hD.sub (ws' := HC aI aJ h st u_323 ++ (HC aI aJ g tt jt ++ ([(fa, .inl (aI, 12, .inl F))]))) [22, 23, 24, 25, 26, 27, 28, 29, 30, 31, 32, 33, 34, 35, 36, 37, 38, 39, 40, 41, 42, 0, 1, 2, 3, 4, 5, 6, 7, 8, 9, 10, 11, 12, 13, 14, 15, 16, 17, 18, 19, 20, 21] (by decide) rfl
  have hP : va_P D vwCl (HC aI aJ h st u_323 ++ (HC aI aJ g tt jt ++ ([(fa, .inl (aI, 12, .inl F))]))) H := hP
  have hD : va_D A (HC aI aJ h st u_323 ++ (HC aI aJ g tt jt ++ ([(fa, .inl (aI, 12, .inl F))]))) := hD
  refine j_topi (y := nI (sNr st)) (q_323) ?_
  refine lv_irem hx hb dL_law_326 (nI_ne0 hr1 (by omega)) ?_
  refine j_topi (y := nI (((x / 16) / 12) % (sNr st))) (pk_rem (by omega) (hr1) (by omega)) ?_
  refine lv_istore (lv' := [(13, .int (nI (((x / 16) / 12) % (sNr st)))), (12, .int (nI ((x / 16) % (sNl st)))), (0, .ref b), (1, .ref (h 0)), (2, .ref (g 0)), (3, .ref fa), (4, .int (nI th)), (5, .int (nI wd)), (6, .int (nI 1)), (7, .int (nI k)), (8, .int (nI x)), (9, .int (nI (x / 16))), (10, .int (nI (x % 16))), (11, .int (nI (sN st)))]) hx hb dL_law_327 hl (by decide) rfl (fun ls hl => ?_)
  have hl := lv_sub (l' := [(0, .ref b), (1, .ref (h 0)), (2, .ref (g 0)), (3, .ref fa), (4, .int (nI th)), (5, .int (nI wd)), (6, .int (nI 1)), (7, .int (nI k)), (8, .int (nI x)), (9, .int (nI (x / 16))), (10, .int (nI (x % 16))), (11, .int (nI (sN st))), (12, .int (nI ((x / 16) % (sNl st)))), (13, .int (nI (((x / 16) / 12) % (sNr st))))]) hl [2, 3, 4, 5, 6, 7, 8, 9, 10, 11, 12, 13, 1, 0] rfl
  exact kk ((x / 16) % (sNl st)) (((x / 16) / 12) % (sNr st)) u_323 jt H _ ls _ _ (Nat.mod_lt _ hl1) (Nat.mod_lt _ hr1) hP hD hS hl (by omega) (by omega)
set_option maxHeartbeats 4000000 in
set_option maxRecDepth 100000 in
theorem la_G1  (l : Launch) (hl0 : l.stackTraces = false) (hRf : 24 ≤ R.frames) (hRl : 700 ≤ R.locals) (C : jC p s m meth c cL_law 18 (some .boolean) RL wsL_law D (jT aI aJ aZ) args A nm) (hXs : jXs A s s.heap) (u : TU st tt) (hi1 : i < sNl st) (hj1 : jj < sNr st) (hP : va_P D vwCl (HC aI aJ h st j ++ (HC aI aJ g tt jt ++ ([(fa, .inl (aI, 12, .inl F))]))) H) (hD : va_D A (HC aI aJ h st j ++ (HC aI aJ g tt jt ++ ([(fa, .inl (aI, 12, .inl F))])))) (hS : va_S A s.heap H locs) (hl : lv_has ls 18 [(0, .ref b), (1, .ref (h 0)), (2, .ref (g 0)), (3, .ref fa), (4, .int (nI th)), (5, .int (nI wd)), (6, .int (nI 1)), (7, .int (nI k)), (8, .int (nI x)), (9, .int (nI (x / 16))), (10, .int (nI (x % 16))), (11, .int (nI (sN st))), (12, .int (nI i)), (13, .int (nI jj))]) (hRc : cells + 2 ≤ R.cells) (hRs : slots + 12 ≤ R.slots) (kk : ∀ (j jt : Jk) (H : Heap) (locs : List Loc) (ls : Array Slot) (c1 s1 : Nat), va_P D vwCl (HC aI aJ h st j ++ (HC aI aJ g tt jt ++ ([(fa, .inl (aI, 12, .inl F))]))) H → va_D A (HC aI aJ h st j ++ (HC aI aJ g tt jt ++ ([(fa, .inl (aI, 12, .inl F))]))) → va_S A s.heap H locs → lv_has ls 18 [(0, .ref b), (1, .ref (h 0)), (2, .ref (g 0)), (3, .ref fa), (4, .int (nI th)), (5, .int (nI wd)), (6, .int (nI 1)), (7, .int (nI k)), (8, .int (nI x)), (9, .int (nI (x / 16))), (10, .int (nI (x % 16))), (11, .int (nI (sN st))), (12, .int (nI i)), (13, .int (nI jj)), (14, .int (nI (b2n (sE st i jj))))] → c1 ≤ cells + 2 → s1 ≤ slots + 12 → W p l e R s m args below meth c H locs c1 s1 Q (F0 m 348 ls [])) : W p l e R s m args below meth c H locs cells slots Q (F0 m 329 ls []) := by
  obtain ⟨hx, hb, hml, hown, hts, hK, hA, hlocks, hr, hn, hN⟩ := id C
  have hi := u.hs
  have hj := u.ht
  have hnl := u.hnl
  have hnr := u.hnr
  have hmL := u.hs.b12
  have htl : sNl tt ≤ 12 := u.ht.1
  have htr : sNr tt ≤ 12 := u.ht.2.1
  refine lv_aload_n hx hb dL_law_329 rfl (lv_at hl 1 rfl) ?_
  refine lv_iload hx hb dL_law_330 (lv_at hl 12 rfl) ?_
  refine lv_iload hx hb dL_law_332 (lv_at hl 13 rfl) ?_
  refine j_calliM (vx_runSW (As := [.ref (h 0), .int (nI i), .int (nI jj)]) (rest := []) C.fix (c_L_has l hl0 D aI aJ aZ h st j (nI i) (nI jj) hi H.size) (vx_cwSW 3 hts gL_law_L_has rfl rfl rfl (by decide +kernel) ⟨Nat.le_trans (m := 24) (Nat.le_of_ble_eq_true rfl) hRf, Nat.le_trans (m := 700) (Nat.le_of_ble_eq_true rfl) hRl⟩) (jxPreS hXs hA hS hN hK hP hD [0, 1, 2, 3, 4, 5, 6, 7, 8, 9, 10, 11, 12, 13, 14, 15, 16, 17, 18, 19, 20] rfl rfl (by decide)) rfl rfl hl.1 rfl (lv_room (Nat.le_of_ble_eq_true rfl)) dL_law_334 ⟨by omega, by omega⟩) hA hP hD hS [0, 1, 2, 3, 4, 5, 6, 7, 8, 9, 10, 11, 12, 13, 14, 15, 16, 17, 18, 19, 20] [21, 22, 23, 24, 25, 26, 27, 28, 29, 30, 31, 32, 33, 34, 35, 36, 37, 38, 39, 40, 41, 42] (wr := HC aI aJ g tt jt ++ ([(fa, .inl (aI, 12, .inl F))])) rfl rfl (by decide) (by decide) (fun r_334 u_334 H locs q_334 hP hD hS => ?_)
  have hP := hP.sub (ws' := HC aI aJ h st u_334 ++ (HC aI aJ g tt jt ++ ([(fa, .inl (aI, 12, .inl F))]))) [22, 23, 24, 25, 26, 27, 28, 29, 30, 31, 32, 33, 34, 35, 36, 37, 38, 39, 40, 41, 42, 0, 1, 2, 3, 4, 5, 6, 7, 8, 9, 10, 11, 12, 13, 14, 15, 16, 17, 18, 19, 20, 21] rfl
  have hD := hD.sub (ws' := HC aI aJ h st u_334 ++ (HC aI aJ g tt jt ++ ([(fa, .inl (aI, 12, .inl F))]))) [22, 23, 24, 25, 26, 27, 28, 29, 30, 31, 32, 33, 34, 35, 36, 37, 38, 39, 40, 41, 42, 0, 1, 2, 3, 4, 5, 6, 7, 8, 9, 10, 11, 12, 13, 14, 15, 16, 17, 18, 19, 20, 21] (by decide) rfl
  have hP : va_P D vwCl (HC aI aJ h st u_334 ++ (HC aI aJ g tt jt ++ ([(fa, .inl (aI, 12, .inl F))]))) H := hP
  have hD : va_D A (HC aI aJ h st u_334 ++ (HC aI aJ g tt jt ++ ([(fa, .inl (aI, 12, .inl F))]))) := hD
  refine j_topi (y := nI (b2n (sE st i jj))) (ha_at (ix_of (by omega) hi1 rfl) (ix_of (by omega) hj1 rfl) q_334) ?_
  refine lv_iconst (v := nI 1) hx hb dL_law_337 (by decide) ?_
  refine lv_icmp_ne (tgt := 345) hx hb dL_law_338 (by decide) (fun c_338 => ?_) (fun c_338 => ?_)
  · have hE := b2n_n1 c_338
    refine lv_iconst (v := nI 0) hx hb dL_law_345 (by decide) ?_
    refine lv_istore (lv' := [(14, .int (nI 0)), (0, .ref b), (1, .ref (h 0)), (2, .ref (g 0)), (3, .ref fa), (4, .int (nI th)), (5, .int (nI wd)), (6, .int (nI 1)), (7, .int (nI k)), (8, .int (nI x)), (9, .int (nI (x / 16))), (10, .int (nI (x % 16))), (11, .int (nI (sN st))), (12, .int (nI i)), (13, .int (nI jj))]) hx hb dL_law_346 hl (by decide) rfl (fun ls hl => ?_)
    have eV : nI 0 = nI (b2n (sE st i jj)) := by rw [hE] <;> rfl
    have hl := lv_re hl 0 rfl (show (.int (nI 0) : Value) = .int (nI (b2n (sE st i jj))) from congrArg _ eV)
    have hl : lv_has ls 18 [(14, .int (nI (b2n (sE st i jj)))), (0, .ref b), (1, .ref (h 0)), (2, .ref (g 0)), (3, .ref fa), (4, .int (nI th)), (5, .int (nI wd)), (6, .int (nI 1)), (7, .int (nI k)), (8, .int (nI x)), (9, .int (nI (x / 16))), (10, .int (nI (x % 16))), (11, .int (nI (sN st))), (12, .int (nI i)), (13, .int (nI jj))] := hl
    have hl := lv_sub (l' := [(0, .ref b), (1, .ref (h 0)), (2, .ref (g 0)), (3, .ref fa), (4, .int (nI th)), (5, .int (nI wd)), (6, .int (nI 1)), (7, .int (nI k)), (8, .int (nI x)), (9, .int (nI (x / 16))), (10, .int (nI (x % 16))), (11, .int (nI (sN st))), (12, .int (nI i)), (13, .int (nI jj)), (14, .int (nI (b2n (sE st i jj))))]) hl [1, 2, 3, 4, 5, 6, 7, 8, 9, 10, 11, 12, 13, 14, 0] rfl
    exact kk u_334 jt H _ ls _ _  hP hD hS hl (by omega) (by omega)
  · have hE := b2n_1 c_338
    refine lv_iconst (v := nI 1) hx hb dL_law_341 (by decide) ?_
    refine lv_goto (tgt := 346) hx hb dL_law_342 (by decide) ?_
    refine lv_istore (lv' := [(14, .int (nI 1)), (0, .ref b), (1, .ref (h 0)), (2, .ref (g 0)), (3, .ref fa), (4, .int (nI th)), (5, .int (nI wd)), (6, .int (nI 1)), (7, .int (nI k)), (8, .int (nI x)), (9, .int (nI (x / 16))), (10, .int (nI (x % 16))), (11, .int (nI (sN st))), (12, .int (nI i)), (13, .int (nI jj))]) hx hb dL_law_346 hl (by decide) rfl (fun ls hl => ?_)
    have eV : nI 1 = nI (b2n (sE st i jj)) := by rw [hE] <;> rfl
    have hl := lv_re hl 0 rfl (show (.int (nI 1) : Value) = .int (nI (b2n (sE st i jj))) from congrArg _ eV)
    have hl : lv_has ls 18 [(14, .int (nI (b2n (sE st i jj)))), (0, .ref b), (1, .ref (h 0)), (2, .ref (g 0)), (3, .ref fa), (4, .int (nI th)), (5, .int (nI wd)), (6, .int (nI 1)), (7, .int (nI k)), (8, .int (nI x)), (9, .int (nI (x / 16))), (10, .int (nI (x % 16))), (11, .int (nI (sN st))), (12, .int (nI i)), (13, .int (nI jj))] := hl
    have hl := lv_sub (l' := [(0, .ref b), (1, .ref (h 0)), (2, .ref (g 0)), (3, .ref fa), (4, .int (nI th)), (5, .int (nI wd)), (6, .int (nI 1)), (7, .int (nI k)), (8, .int (nI x)), (9, .int (nI (x / 16))), (10, .int (nI (x % 16))), (11, .int (nI (sN st))), (12, .int (nI i)), (13, .int (nI jj)), (14, .int (nI (b2n (sE st i jj))))]) hl [1, 2, 3, 4, 5, 6, 7, 8, 9, 10, 11, 12, 13, 14, 0] rfl
    exact kk u_334 jt H _ ls _ _  hP hD hS hl (by omega) (by omega)
set_option maxHeartbeats 4000000 in
set_option maxRecDepth 100000 in
theorem la_G2  (l : Launch) (hl0 : l.stackTraces = false) (hRf : 24 ≤ R.frames) (hRl : 700 ≤ R.locals) (C : jC p s m meth c cL_law 18 (some .boolean) RL wsL_law D (jT aI aJ aZ) args A nm) (hXs : jXs A s s.heap) (u : TU st tt) (hi1 : i < sNl st) (hj1 : jj < sNr st) (hP : va_P D vwCl (HC aI aJ h st j ++ (HC aI aJ g tt jt ++ ([(fa, .inl (aI, 12, .inl F))]))) H) (hD : va_D A (HC aI aJ h st j ++ (HC aI aJ g tt jt ++ ([(fa, .inl (aI, 12, .inl F))])))) (hS : va_S A s.heap H locs) (hl : lv_has ls 18 [(0, .ref b), (1, .ref (h 0)), (2, .ref (g 0)), (3, .ref fa), (4, .int (nI th)), (5, .int (nI wd)), (6, .int (nI 1)), (7, .int (nI k)), (8, .int (nI x)), (9, .int (nI (x / 16))), (10, .int (nI (x % 16))), (11, .int (nI (sN st))), (12, .int (nI i)), (13, .int (nI jj)), (14, .int (nI (b2n (sE st i jj))))]) (hRc : cells + 2 ≤ R.cells) (hRs : slots + 12 ≤ R.slots) (kk : ∀ (j jt : Jk) (H : Heap) (locs : List Loc) (ls : Array Slot) (c1 s1 : Nat), va_P D vwCl (HC aI aJ h st j ++ (HC aI aJ g tt jt ++ ([(fa, .inl (aI, 12, .inl F))]))) H → va_D A (HC aI aJ h st j ++ (HC aI aJ g tt jt ++ ([(fa, .inl (aI, 12, .inl F))]))) → va_S A s.heap H locs → lv_has ls 18 [(0, .ref b), (1, .ref (h 0)), (2, .ref (g 0)), (3, .ref fa), (4, .int (nI th)), (5, .int (nI wd)), (6, .int (nI 1)), (7, .int (nI k)), (8, .int (nI x)), (9, .int (nI (x / 16))), (10, .int (nI (x % 16))), (11, .int (nI (sN st))), (12, .int (nI i)), (13, .int (nI jj)), (14, .int (nI (b2n (sE st i jj)))), (15, .int (nI (b2n (decide (sL st i = some jj)))))] → c1 ≤ cells + 2 → s1 ≤ slots + 12 → W p l e R s m args below meth c H locs c1 s1 Q (F0 m 366 ls [])) : W p l e R s m args below meth c H locs cells slots Q (F0 m 348 ls []) := by
  obtain ⟨hx, hb, hml, hown, hts, hK, hA, hlocks, hr, hn, hN⟩ := id C
  have hi := u.hs
  have hj := u.ht
  have hnl := u.hnl
  have hnr := u.hnr
  have hmL := u.hs.b12
  have htl : sNl tt ≤ 12 := u.ht.1
  have htr : sNr tt ≤ 12 := u.ht.2.1
  refine lv_aload_n hx hb dL_law_348 rfl (lv_at hl 1 rfl) ?_
  refine lv_iload hx hb dL_law_349 (lv_at hl 12 rfl) ?_
  refine j_calliM (vx_runSW (As := [.ref (h 0), .int (nI i)]) (rest := []) C.fix (c_L_ofLeft l hl0 D aI aJ aZ h st j (nI i) hi H.size) (vx_cwSW 2 hts gL_law_L_ofLeft rfl rfl rfl (by decide +kernel) ⟨Nat.le_trans (m := 24) (Nat.le_of_ble_eq_true rfl) hRf, Nat.le_trans (m := 700) (Nat.le_of_ble_eq_true rfl) hRl⟩) (jxPreS hXs hA hS hN hK hP hD [0, 1, 2, 3, 4, 5, 6, 7, 8, 9, 10, 11, 12, 13, 14, 15, 16, 17, 18, 19, 20] rfl rfl (by decide)) rfl rfl hl.1 rfl (lv_room (Nat.le_of_ble_eq_true rfl)) dL_law_351 ⟨by omega, by omega⟩) hA hP hD hS [0, 1, 2, 3, 4, 5, 6, 7, 8, 9, 10, 11, 12, 13, 14, 15, 16, 17, 18, 19, 20] [21, 22, 23, 24, 25, 26, 27, 28, 29, 30, 31, 32, 33, 34, 35, 36, 37, 38, 39, 40, 41, 42] (wr := HC aI aJ g tt jt ++ ([(fa, .inl (aI, 12, .inl F))])) rfl rfl (by decide) (by decide) (fun r_351 u_351 H locs q_351 hP hD hS => ?_)
  have hP := hP.sub (ws' := HC aI aJ h st u_351 ++ (HC aI aJ g tt jt ++ ([(fa, .inl (aI, 12, .inl F))]))) [22, 23, 24, 25, 26, 27, 28, 29, 30, 31, 32, 33, 34, 35, 36, 37, 38, 39, 40, 41, 42, 0, 1, 2, 3, 4, 5, 6, 7, 8, 9, 10, 11, 12, 13, 14, 15, 16, 17, 18, 19, 20, 21] rfl
  have hD := hD.sub (ws' := HC aI aJ h st u_351 ++ (HC aI aJ g tt jt ++ ([(fa, .inl (aI, 12, .inl F))]))) [22, 23, 24, 25, 26, 27, 28, 29, 30, 31, 32, 33, 34, 35, 36, 37, 38, 39, 40, 41, 42, 0, 1, 2, 3, 4, 5, 6, 7, 8, 9, 10, 11, 12, 13, 14, 15, 16, 17, 18, 19, 20, 21] (by decide) rfl
  have hP : va_P D vwCl (HC aI aJ h st u_351 ++ (HC aI aJ g tt jt ++ ([(fa, .inl (aI, 12, .inl F))]))) H := hP
  have hD : va_D A (HC aI aJ h st u_351 ++ (HC aI aJ g tt jt ++ ([(fa, .inl (aI, 12, .inl F))]))) := hD
  refine j_topi (y := pv (sL st i)) (ol_at (ix_of (by omega) hi1 rfl) q_351) ?_
  refine lv_iload hx hb dL_law_354 (lv_at hl 13 rfl) ?_
  refine lv_icmp_ne (tgt := 363) hx hb dL_law_356 (by decide) (fun c_356 => ?_) (fun c_356 => ?_)
  · have hM : ¬ sL st i = some jj := fun q => c_356 (congrArg pv q)
    refine lv_iconst (v := nI 0) hx hb dL_law_363 (by decide) ?_
    refine lv_istore (lv' := [(15, .int (nI 0)), (0, .ref b), (1, .ref (h 0)), (2, .ref (g 0)), (3, .ref fa), (4, .int (nI th)), (5, .int (nI wd)), (6, .int (nI 1)), (7, .int (nI k)), (8, .int (nI x)), (9, .int (nI (x / 16))), (10, .int (nI (x % 16))), (11, .int (nI (sN st))), (12, .int (nI i)), (13, .int (nI jj)), (14, .int (nI (b2n (sE st i jj))))]) hx hb dL_law_364 hl (by decide) rfl (fun ls hl => ?_)
    have eV : nI 0 = nI (b2n (decide (sL st i = some jj))) := by rw [decide_eq_false hM] <;> rfl
    have hl := lv_re hl 0 rfl (show (.int (nI 0) : Value) = .int (nI (b2n (decide (sL st i = some jj)))) from congrArg _ eV)
    have hl : lv_has ls 18 [(15, .int (nI (b2n (decide (sL st i = some jj))))), (0, .ref b), (1, .ref (h 0)), (2, .ref (g 0)), (3, .ref fa), (4, .int (nI th)), (5, .int (nI wd)), (6, .int (nI 1)), (7, .int (nI k)), (8, .int (nI x)), (9, .int (nI (x / 16))), (10, .int (nI (x % 16))), (11, .int (nI (sN st))), (12, .int (nI i)), (13, .int (nI jj)), (14, .int (nI (b2n (sE st i jj))))] := hl
    have hl := lv_sub (l' := [(0, .ref b), (1, .ref (h 0)), (2, .ref (g 0)), (3, .ref fa), (4, .int (nI th)), (5, .int (nI wd)), (6, .int (nI 1)), (7, .int (nI k)), (8, .int (nI x)), (9, .int (nI (x / 16))), (10, .int (nI (x % 16))), (11, .int (nI (sN st))), (12, .int (nI i)), (13, .int (nI jj)), (14, .int (nI (b2n (sE st i jj)))), (15, .int (nI (b2n (decide (sL st i = some jj)))))]) hl [1, 2, 3, 4, 5, 6, 7, 8, 9, 10, 11, 12, 13, 14, 15, 0] rfl
    exact kk u_351 jt H _ ls _ _  hP hD hS hl (by omega) (by omega)
  · have hM : sL st i = some jj := pv_inj (hmL i) (fun v hv => by cases hv; omega) c_356
    refine lv_iconst (v := nI 1) hx hb dL_law_359 (by decide) ?_
    refine lv_goto (tgt := 364) hx hb dL_law_360 (by decide) ?_
    refine lv_istore (lv' := [(15, .int (nI 1)), (0, .ref b), (1, .ref (h 0)), (2, .ref (g 0)), (3, .ref fa), (4, .int (nI th)), (5, .int (nI wd)), (6, .int (nI 1)), (7, .int (nI k)), (8, .int (nI x)), (9, .int (nI (x / 16))), (10, .int (nI (x % 16))), (11, .int (nI (sN st))), (12, .int (nI i)), (13, .int (nI jj)), (14, .int (nI (b2n (sE st i jj))))]) hx hb dL_law_364 hl (by decide) rfl (fun ls hl => ?_)
    have eV : nI 1 = nI (b2n (decide (sL st i = some jj))) := by rw [decide_eq_true hM] <;> rfl
    have hl := lv_re hl 0 rfl (show (.int (nI 1) : Value) = .int (nI (b2n (decide (sL st i = some jj)))) from congrArg _ eV)
    have hl : lv_has ls 18 [(15, .int (nI (b2n (decide (sL st i = some jj))))), (0, .ref b), (1, .ref (h 0)), (2, .ref (g 0)), (3, .ref fa), (4, .int (nI th)), (5, .int (nI wd)), (6, .int (nI 1)), (7, .int (nI k)), (8, .int (nI x)), (9, .int (nI (x / 16))), (10, .int (nI (x % 16))), (11, .int (nI (sN st))), (12, .int (nI i)), (13, .int (nI jj)), (14, .int (nI (b2n (sE st i jj))))] := hl
    have hl := lv_sub (l' := [(0, .ref b), (1, .ref (h 0)), (2, .ref (g 0)), (3, .ref fa), (4, .int (nI th)), (5, .int (nI wd)), (6, .int (nI 1)), (7, .int (nI k)), (8, .int (nI x)), (9, .int (nI (x / 16))), (10, .int (nI (x % 16))), (11, .int (nI (sN st))), (12, .int (nI i)), (13, .int (nI jj)), (14, .int (nI (b2n (sE st i jj)))), (15, .int (nI (b2n (decide (sL st i = some jj)))))]) hl [1, 2, 3, 4, 5, 6, 7, 8, 9, 10, 11, 12, 13, 14, 15, 0] rfl
    exact kk u_351 jt H _ ls _ _  hP hD hS hl (by omega) (by omega)
set_option maxHeartbeats 4000000 in
set_option maxRecDepth 100000 in
theorem la_G3  (l : Launch) (hl0 : l.stackTraces = false) (hRf : 24 ≤ R.frames) (hRl : 700 ≤ R.locals) (C : jC p s m meth c cL_law 18 (some .boolean) RL wsL_law D (jT aI aJ aZ) args A nm) (hXs : jXs A s s.heap) (u : TU st tt) (hi1 : i < sNl st) (hj1 : jj < sNr st) (hP : va_P D vwCl (HC aI aJ h st j ++ (HC aI aJ g tt jt ++ ([(fa, .inl (aI, 12, .inl F))]))) H) (hD : va_D A (HC aI aJ h st j ++ (HC aI aJ g tt jt ++ ([(fa, .inl (aI, 12, .inl F))])))) (hS : va_S A s.heap H locs) (hl : lv_has ls 18 [(0, .ref b), (1, .ref (h 0)), (2, .ref (g 0)), (3, .ref fa), (4, .int (nI th)), (5, .int (nI wd)), (6, .int (nI 1)), (7, .int (nI k)), (8, .int (nI x)), (9, .int (nI (x / 16))), (10, .int (nI (x % 16))), (11, .int (nI (sN st))), (12, .int (nI i)), (13, .int (nI jj)), (14, .int (nI (b2n (sE st i jj)))), (15, .int (nI (b2n (decide (sL st i = some jj)))))]) (hRc : cells + 3 ≤ R.cells) (hRs : slots + 18 ≤ R.slots) (kk : ∀ (j jt : Jk) (H : Heap) (locs : List Loc) (ls : Array Slot) (c1 s1 : Nat), va_P D vwCl (HC aI aJ h st j ++ (HC aI aJ g tt jt ++ ([(fa, .inl (aI, 12, .inl F))]))) H → va_D A (HC aI aJ h st j ++ (HC aI aJ g tt jt ++ ([(fa, .inl (aI, 12, .inl F))]))) → va_S A s.heap H locs → lv_has ls 18 [(0, .ref b), (1, .ref (h 0)), (2, .ref (g 0)), (3, .ref fa), (4, .int (nI th)), (5, .int (nI wd)), (6, .int (nI 1)), (7, .int (nI k)), (8, .int (nI x)), (9, .int (nI (x / 16))), (10, .int (nI (x % 16))), (11, .int (nI (sN st))), (12, .int (nI i)), (13, .int (nI jj)), (14, .int (nI (b2n (sE st i jj)))), (15, .int (nI (b2n (decide (sL st i = some jj))))), (16, .int (nI (b2n (sE st i jj && iAl (sE st) (sL st) (sR st) (sNl st) (sNr st) i jj))))] → c1 ≤ cells + 3 → s1 ≤ slots + 18 → W p l e R s m args below meth c H locs c1 s1 Q (F0 m 390 ls [])) : W p l e R s m args below meth c H locs cells slots Q (F0 m 366 ls []) := by
  obtain ⟨hx, hb, hml, hown, hts, hK, hA, hlocks, hr, hn, hN⟩ := id C
  have hi := u.hs
  have hj := u.ht
  have hnl := u.hnl
  have hnr := u.hnr
  have hmL := u.hs.b12
  have htl : sNl tt ≤ 12 := u.ht.1
  have htr : sNr tt ≤ 12 := u.ht.2.1
  refine lv_iload hx hb dL_law_366 (lv_at hl 14 rfl) ?_
  refine lv_if_eq (tgt := 387) hx hb dL_law_368 (by decide) (fun c_368 => ?_) (fun c_368 => ?_)
  · have hE : sE st i jj = false := by
        cases q : sE st i jj with
        | false => rfl
        | true => rw [q] at c_368; exact absurd c_368 (by decide)
    refine lv_iconst (v := nI 0) hx hb dL_law_387 (by decide) ?_
    refine lv_istore (lv' := [(16, .int (nI 0)), (0, .ref b), (1, .ref (h 0)), (2, .ref (g 0)), (3, .ref fa), (4, .int (nI th)), (5, .int (nI wd)), (6, .int (nI 1)), (7, .int (nI k)), (8, .int (nI x)), (9, .int (nI (x / 16))), (10, .int (nI (x % 16))), (11, .int (nI (sN st))), (12, .int (nI i)), (13, .int (nI jj)), (14, .int (nI (b2n (sE st i jj)))), (15, .int (nI (b2n (decide (sL st i = some jj)))))]) hx hb dL_law_388 hl (by decide) rfl (fun ls hl => ?_)
    have eV : nI 0 = nI (b2n (sE st i jj && iAl (sE st) (sL st) (sR st) (sNl st) (sNr st) i jj)) := by rw [hE] <;> rfl
    have hl := lv_re hl 0 rfl (show (.int (nI 0) : Value) = .int (nI (b2n (sE st i jj && iAl (sE st) (sL st) (sR st) (sNl st) (sNr st) i jj))) from congrArg _ eV)
    have hl : lv_has ls 18 [(16, .int (nI (b2n (sE st i jj && iAl (sE st) (sL st) (sR st) (sNl st) (sNr st) i jj)))), (0, .ref b), (1, .ref (h 0)), (2, .ref (g 0)), (3, .ref fa), (4, .int (nI th)), (5, .int (nI wd)), (6, .int (nI 1)), (7, .int (nI k)), (8, .int (nI x)), (9, .int (nI (x / 16))), (10, .int (nI (x % 16))), (11, .int (nI (sN st))), (12, .int (nI i)), (13, .int (nI jj)), (14, .int (nI (b2n (sE st i jj)))), (15, .int (nI (b2n (decide (sL st i = some jj)))))] := hl
    have hl := lv_sub (l' := [(0, .ref b), (1, .ref (h 0)), (2, .ref (g 0)), (3, .ref fa), (4, .int (nI th)), (5, .int (nI wd)), (6, .int (nI 1)), (7, .int (nI k)), (8, .int (nI x)), (9, .int (nI (x / 16))), (10, .int (nI (x % 16))), (11, .int (nI (sN st))), (12, .int (nI i)), (13, .int (nI jj)), (14, .int (nI (b2n (sE st i jj)))), (15, .int (nI (b2n (decide (sL st i = some jj))))), (16, .int (nI (b2n (sE st i jj && iAl (sE st) (sL st) (sR st) (sNl st) (sNr st) i jj))))]) hl [1, 2, 3, 4, 5, 6, 7, 8, 9, 10, 11, 12, 13, 14, 15, 16, 0] rfl
    exact kk j jt H _ ls _ _  hP hD hS hl (by omega) (by omega)
  · have hE : sE st i jj = true := by
        cases q : sE st i jj with
        | true => rfl
        | false => rw [q] at c_368; exact absurd rfl c_368
    refine lv_aload_n hx hb dL_law_371 rfl (lv_at hl 1 rfl) ?_
    refine lv_iload hx hb dL_law_372 (lv_at hl 12 rfl) ?_
    refine lv_iload hx hb dL_law_374 (lv_at hl 13 rfl) ?_
    refine j_calliM (vx_runSW (As := [.ref (h 0), .int (nI i), .int (nI jj)]) (rest := []) C.fix (c_L_inAll l hl0 D aI aJ aZ h st j (nI i) (nI jj) hi H.size) (vx_cwSW 3 hts gL_law_L_inAll rfl rfl rfl (by decide +kernel) ⟨Nat.le_trans (m := 24) (Nat.le_of_ble_eq_true rfl) hRf, Nat.le_trans (m := 700) (Nat.le_of_ble_eq_true rfl) hRl⟩) (jxPreS hXs hA hS hN hK hP hD [0, 1, 2, 3, 4, 5, 6, 7, 8, 9, 10, 11, 12, 13, 14, 15, 16, 17, 18, 19, 20] rfl rfl (by decide)) rfl rfl hl.1 rfl (lv_room (Nat.le_of_ble_eq_true rfl)) dL_law_376 ⟨by omega, by omega⟩) hA hP hD hS [0, 1, 2, 3, 4, 5, 6, 7, 8, 9, 10, 11, 12, 13, 14, 15, 16, 17, 18, 19, 20] [21, 22, 23, 24, 25, 26, 27, 28, 29, 30, 31, 32, 33, 34, 35, 36, 37, 38, 39, 40, 41, 42] (wr := HC aI aJ g tt jt ++ ([(fa, .inl (aI, 12, .inl F))])) rfl rfl (by decide) (by decide) (fun r_376 u_376 H locs q_376 hP hD hS => ?_)
    have hP := hP.sub (ws' := HC aI aJ h st u_376 ++ (HC aI aJ g tt jt ++ ([(fa, .inl (aI, 12, .inl F))]))) [22, 23, 24, 25, 26, 27, 28, 29, 30, 31, 32, 33, 34, 35, 36, 37, 38, 39, 40, 41, 42, 0, 1, 2, 3, 4, 5, 6, 7, 8, 9, 10, 11, 12, 13, 14, 15, 16, 17, 18, 19, 20, 21] rfl
    have hD := hD.sub (ws' := HC aI aJ h st u_376 ++ (HC aI aJ g tt jt ++ ([(fa, .inl (aI, 12, .inl F))]))) [22, 23, 24, 25, 26, 27, 28, 29, 30, 31, 32, 33, 34, 35, 36, 37, 38, 39, 40, 41, 42, 0, 1, 2, 3, 4, 5, 6, 7, 8, 9, 10, 11, 12, 13, 14, 15, 16, 17, 18, 19, 20, 21] (by decide) rfl
    have hP : va_P D vwCl (HC aI aJ h st u_376 ++ (HC aI aJ g tt jt ++ ([(fa, .inl (aI, 12, .inl F))]))) H := hP
    have hD : va_D A (HC aI aJ h st u_376 ++ (HC aI aJ g tt jt ++ ([(fa, .inl (aI, 12, .inl F))]))) := hD
    refine j_topi (y := if sE st i jj = true then nI (b2n (iAl (sE st) (sL st) (sR st) (sNl st) (sNr st) i jj)) else (-9999004)) (ia_at (ix_of (by omega) hi1 rfl) (ix_of (by omega) hj1 rfl) q_376) ?_
    refine lv_iconst (v := nI 1) hx hb dL_law_379 (by decide) ?_
    refine lv_icmp_ne (tgt := 387) hx hb dL_law_380 (by decide) (fun c_380 => ?_) (fun c_380 => ?_)
    · have hA9 : (sE st i jj && iAl (sE st) (sL st) (sR st) (sNl st) (sNr st) i jj) = false := by
          rw [hE, Bool.true_and]
          rw [if_pos hE] at c_380
          exact b2n_n1 c_380
      refine lv_iconst (v := nI 0) hx hb dL_law_387 (by decide) ?_
      refine lv_istore (lv' := [(16, .int (nI 0)), (0, .ref b), (1, .ref (h 0)), (2, .ref (g 0)), (3, .ref fa), (4, .int (nI th)), (5, .int (nI wd)), (6, .int (nI 1)), (7, .int (nI k)), (8, .int (nI x)), (9, .int (nI (x / 16))), (10, .int (nI (x % 16))), (11, .int (nI (sN st))), (12, .int (nI i)), (13, .int (nI jj)), (14, .int (nI (b2n (sE st i jj)))), (15, .int (nI (b2n (decide (sL st i = some jj)))))]) hx hb dL_law_388 hl (by decide) rfl (fun ls hl => ?_)
      have eV : nI 0 = nI (b2n (sE st i jj && iAl (sE st) (sL st) (sR st) (sNl st) (sNr st) i jj)) := by rw [hA9] <;> rfl
      have hl := lv_re hl 0 rfl (show (.int (nI 0) : Value) = .int (nI (b2n (sE st i jj && iAl (sE st) (sL st) (sR st) (sNl st) (sNr st) i jj))) from congrArg _ eV)
      have hl : lv_has ls 18 [(16, .int (nI (b2n (sE st i jj && iAl (sE st) (sL st) (sR st) (sNl st) (sNr st) i jj)))), (0, .ref b), (1, .ref (h 0)), (2, .ref (g 0)), (3, .ref fa), (4, .int (nI th)), (5, .int (nI wd)), (6, .int (nI 1)), (7, .int (nI k)), (8, .int (nI x)), (9, .int (nI (x / 16))), (10, .int (nI (x % 16))), (11, .int (nI (sN st))), (12, .int (nI i)), (13, .int (nI jj)), (14, .int (nI (b2n (sE st i jj)))), (15, .int (nI (b2n (decide (sL st i = some jj)))))] := hl
      have hl := lv_sub (l' := [(0, .ref b), (1, .ref (h 0)), (2, .ref (g 0)), (3, .ref fa), (4, .int (nI th)), (5, .int (nI wd)), (6, .int (nI 1)), (7, .int (nI k)), (8, .int (nI x)), (9, .int (nI (x / 16))), (10, .int (nI (x % 16))), (11, .int (nI (sN st))), (12, .int (nI i)), (13, .int (nI jj)), (14, .int (nI (b2n (sE st i jj)))), (15, .int (nI (b2n (decide (sL st i = some jj))))), (16, .int (nI (b2n (sE st i jj && iAl (sE st) (sL st) (sR st) (sNl st) (sNr st) i jj))))]) hl [1, 2, 3, 4, 5, 6, 7, 8, 9, 10, 11, 12, 13, 14, 15, 16, 0] rfl
      exact kk u_376 jt H _ ls _ _  hP hD hS hl (by omega) (by omega)
    · have hA9 := ite_1 c_380
      refine lv_iconst (v := nI 1) hx hb dL_law_383 (by decide) ?_
      refine lv_goto (tgt := 388) hx hb dL_law_384 (by decide) ?_
      refine lv_istore (lv' := [(16, .int (nI 1)), (0, .ref b), (1, .ref (h 0)), (2, .ref (g 0)), (3, .ref fa), (4, .int (nI th)), (5, .int (nI wd)), (6, .int (nI 1)), (7, .int (nI k)), (8, .int (nI x)), (9, .int (nI (x / 16))), (10, .int (nI (x % 16))), (11, .int (nI (sN st))), (12, .int (nI i)), (13, .int (nI jj)), (14, .int (nI (b2n (sE st i jj)))), (15, .int (nI (b2n (decide (sL st i = some jj)))))]) hx hb dL_law_388 hl (by decide) rfl (fun ls hl => ?_)
      have eV : nI 1 = nI (b2n (sE st i jj && iAl (sE st) (sL st) (sR st) (sNl st) (sNr st) i jj)) := by rw [hA9.1, hA9.2] <;> rfl
      have hl := lv_re hl 0 rfl (show (.int (nI 1) : Value) = .int (nI (b2n (sE st i jj && iAl (sE st) (sL st) (sR st) (sNl st) (sNr st) i jj))) from congrArg _ eV)
      have hl : lv_has ls 18 [(16, .int (nI (b2n (sE st i jj && iAl (sE st) (sL st) (sR st) (sNl st) (sNr st) i jj)))), (0, .ref b), (1, .ref (h 0)), (2, .ref (g 0)), (3, .ref fa), (4, .int (nI th)), (5, .int (nI wd)), (6, .int (nI 1)), (7, .int (nI k)), (8, .int (nI x)), (9, .int (nI (x / 16))), (10, .int (nI (x % 16))), (11, .int (nI (sN st))), (12, .int (nI i)), (13, .int (nI jj)), (14, .int (nI (b2n (sE st i jj)))), (15, .int (nI (b2n (decide (sL st i = some jj)))))] := hl
      have hl := lv_sub (l' := [(0, .ref b), (1, .ref (h 0)), (2, .ref (g 0)), (3, .ref fa), (4, .int (nI th)), (5, .int (nI wd)), (6, .int (nI 1)), (7, .int (nI k)), (8, .int (nI x)), (9, .int (nI (x / 16))), (10, .int (nI (x % 16))), (11, .int (nI (sN st))), (12, .int (nI i)), (13, .int (nI jj)), (14, .int (nI (b2n (sE st i jj)))), (15, .int (nI (b2n (decide (sL st i = some jj))))), (16, .int (nI (b2n (sE st i jj && iAl (sE st) (sL st) (sR st) (sNl st) (sNr st) i jj))))]) hl [1, 2, 3, 4, 5, 6, 7, 8, 9, 10, 11, 12, 13, 14, 15, 16, 0] rfl
      exact kk u_376 jt H _ ls _ _  hP hD hS hl (by omega) (by omega)
set_option maxHeartbeats 4000000 in
set_option maxRecDepth 100000 in
theorem la_H  (l : Launch) (hl0 : l.stackTraces = false) (hRf : 24 ≤ R.frames) (hRl : 700 ≤ R.locals) (C : jC p s m meth c cL_law 18 (some .boolean) RL wsL_law D (jT aI aJ aZ) args A nm) (hXs : jXs A s s.heap) (u : TU st tt) (hP : va_P D vwCl (HC aI aJ h st j ++ (HC aI aJ g tt jt ++ ([(fa, .inl (aI, 12, .inl F))]))) H) (hD : va_D A (HC aI aJ h st j ++ (HC aI aJ g tt jt ++ ([(fa, .inl (aI, 12, .inl F))])))) (hS : va_S A s.heap H locs) (hl : lv_has ls 18 [(0, .ref b), (1, .ref (h 0)), (2, .ref (g 0)), (3, .ref fa), (4, .int (nI th)), (5, .int (nI wd)), (6, .int (nI 1)), (7, .int (nI k)), (8, .int (nI x)), (9, .int (nI (x / 16))), (10, .int (nI (x % 16))), (11, .int (nI (sN st))), (12, .int (nI i)), (13, .int (nI jj)), (14, .int (nI (b2n (sE st i jj)))), (15, .int (nI (b2n (decide (sL st i = some jj))))), (16, .int (nI (b2n (sE st i jj && iAl (sE st) (sL st) (sR st) (sNl st) (sNr st) i jj))))]) (hRc : cells + 0 ≤ R.cells) (hRs : slots + 0 ≤ R.slots) (k1 : ∀ (j jt : Jk) (H : Heap) (locs : List Loc) (ls : Array Slot) (c1 s1 : Nat), (sE st i jj = true) → va_P D vwCl (HC aI aJ h st j ++ (HC aI aJ g tt jt ++ ([(fa, .inl (aI, 12, .inl F))]))) H → va_D A (HC aI aJ h st j ++ (HC aI aJ g tt jt ++ ([(fa, .inl (aI, 12, .inl F))]))) → va_S A s.heap H locs → lv_has ls 18 [(0, .ref b), (1, .ref (h 0)), (2, .ref (g 0)), (3, .ref fa), (4, .int (nI th)), (5, .int (nI wd)), (6, .int (nI 1)), (7, .int (nI k)), (8, .int (nI x)), (9, .int (nI (x / 16))), (10, .int (nI (x % 16))), (11, .int (nI (sN st))), (12, .int (nI i)), (13, .int (nI jj)), (14, .int (nI (b2n (sE st i jj)))), (15, .int (nI (b2n (decide (sL st i = some jj))))), (16, .int (nI (b2n (sE st i jj && iAl (sE st) (sL st) (sR st) (sNl st) (sNr st) i jj))))] → c1 ≤ cells + 0 → s1 ≤ slots + 0 → W p l e R s m args below meth c H locs c1 s1 Q (F0 m 402 ls [])) (k2 : ∀ (j jt : Jk) (H : Heap) (locs : List Loc) (ls : Array Slot) (c1 s1 : Nat), (sE st i jj = false) → va_P D vwCl (HC aI aJ h st j ++ (HC aI aJ g tt jt ++ ([(fa, .inl (aI, 12, .inl F))]))) H → va_D A (HC aI aJ h st j ++ (HC aI aJ g tt jt ++ ([(fa, .inl (aI, 12, .inl F))]))) → va_S A s.heap H locs → lv_has ls 18 [(0, .ref b), (1, .ref (h 0)), (2, .ref (g 0)), (3, .ref fa), (4, .int (nI th)), (5, .int (nI wd)), (6, .int (nI 1)), (7, .int (nI k)), (8, .int (nI x)), (9, .int (nI (x / 16))), (10, .int (nI (x % 16))), (11, .int (nI (sN st))), (12, .int (nI i)), (13, .int (nI jj)), (14, .int (nI (b2n (sE st i jj)))), (15, .int (nI (b2n (decide (sL st i = some jj))))), (16, .int (nI (b2n (sE st i jj && iAl (sE st) (sL st) (sR st) (sNl st) (sNr st) i jj))))] → c1 ≤ cells + 0 → s1 ≤ slots + 0 → W p l e R s m args below meth c H locs c1 s1 Q (F0 m 499 ls [])) (k3 : ∀ (j jt : Jk) (H : Heap) (locs : List Loc) (ls : Array Slot) (c1 s1 : Nat), va_P D vwCl (HC aI aJ h st j ++ (HC aI aJ g tt jt ++ ([(fa, .inl (aI, 12, .inl F))]))) H → va_D A (HC aI aJ h st j ++ (HC aI aJ g tt jt ++ ([(fa, .inl (aI, 12, .inl F))]))) → va_S A s.heap H locs → lv_has ls 18 [(0, .ref b), (1, .ref (h 0)), (2, .ref (g 0)), (3, .ref fa), (4, .int (nI th)), (5, .int (nI wd)), (6, .int (nI 1)), (7, .int (nI k)), (8, .int (nI x)), (9, .int (nI (x / 16)))] → c1 ≤ cells + 0 → s1 ≤ slots + 0 → W p l e R s m args below meth c H locs c1 s1 Q (F0 m 568 ls [])) : W p l e R s m args below meth c H locs cells slots Q (F0 m 390 ls []) := by
  obtain ⟨hx, hb, hml, hown, hts, hK, hA, hlocks, hr, hn, hN⟩ := id C
  have hi := u.hs
  have hj := u.ht
  have hnl := u.hnl
  have hnr := u.hnr
  have hmL := u.hs.b12
  have htl : sNl tt ≤ 12 := u.ht.1
  have htr : sNr tt ≤ 12 := u.ht.2.1
  refine lv_iload hx hb dL_law_390 (lv_at hl 14 rfl) ?_
  refine lv_if_eq (tgt := 494) hx hb dL_law_392 (by decide) (fun c_392 => ?_) (fun c_392 => ?_)
  · have hE : sE st i jj = false := by
        cases q : sE st i jj with
        | false => rfl
        | true => rw [q] at c_392; exact absurd c_392 (by decide)
    refine lv_iload hx hb dL_law_494 (lv_at hl 14 rfl) ?_
    refine lv_if_ne (tgt := 568) hx hb dL_law_496 (by decide) (fun c_496 => ?_) (fun c_496 => ?_)
    · exact absurd (by rw [hE]; rfl) c_496
    · clear c_496
      have hl := lv_sub (l' := [(0, .ref b), (1, .ref (h 0)), (2, .ref (g 0)), (3, .ref fa), (4, .int (nI th)), (5, .int (nI wd)), (6, .int (nI 1)), (7, .int (nI k)), (8, .int (nI x)), (9, .int (nI (x / 16))), (10, .int (nI (x % 16))), (11, .int (nI (sN st))), (12, .int (nI i)), (13, .int (nI jj)), (14, .int (nI (b2n (sE st i jj)))), (15, .int (nI (b2n (decide (sL st i = some jj))))), (16, .int (nI (b2n (sE st i jj && iAl (sE st) (sL st) (sR st) (sNl st) (sNr st) i jj))))]) hl [0, 1, 2, 3, 4, 5, 6, 7, 8, 9, 10, 11, 12, 13, 14, 15, 16] rfl
      exact k2 j jt H _ ls _ _ hE hP hD hS hl (by omega) (by omega)
  · have hE : sE st i jj = true := by
        cases q : sE st i jj with
        | true => rfl
        | false => rw [q] at c_392; exact absurd rfl c_392
    refine lv_iload hx hb dL_law_395 (lv_at hl 10 rfl) ?_
    refine lv_bipush (v := nI 12) hx hb dL_law_397 (by decide) ?_
    refine lv_icmp_le (tgt := 494) hx hb dL_law_399 (by decide) (fun c_399 => ?_) (fun c_399 => ?_)
    · clear c_399
      refine lv_iload hx hb dL_law_494 (lv_at hl 14 rfl) ?_
      refine lv_if_ne (tgt := 568) hx hb dL_law_496 (by decide) (fun c_496 => ?_) (fun c_496 => ?_)
      · clear c_496
        have hl := lv_sub (l' := [(0, .ref b), (1, .ref (h 0)), (2, .ref (g 0)), (3, .ref fa), (4, .int (nI th)), (5, .int (nI wd)), (6, .int (nI 1)), (7, .int (nI k)), (8, .int (nI x)), (9, .int (nI (x / 16)))]) hl [0, 1, 2, 3, 4, 5, 6, 7, 8, 9] rfl
        exact k3 j jt H _ ls _ _  hP hD hS hl (by omega) (by omega)
      · exact absurd c_496 (by rw [hE]; decide)
    · clear c_399
      have hl := lv_sub (l' := [(0, .ref b), (1, .ref (h 0)), (2, .ref (g 0)), (3, .ref fa), (4, .int (nI th)), (5, .int (nI wd)), (6, .int (nI 1)), (7, .int (nI k)), (8, .int (nI x)), (9, .int (nI (x / 16))), (10, .int (nI (x % 16))), (11, .int (nI (sN st))), (12, .int (nI i)), (13, .int (nI jj)), (14, .int (nI (b2n (sE st i jj)))), (15, .int (nI (b2n (decide (sL st i = some jj))))), (16, .int (nI (b2n (sE st i jj && iAl (sE st) (sL st) (sR st) (sNl st) (sNr st) i jj))))]) hl [0, 1, 2, 3, 4, 5, 6, 7, 8, 9, 10, 11, 12, 13, 14, 15, 16] rfl
      exact k1 j jt H _ ls _ _ hE hP hD hS hl (by omega) (by omega)
set_option maxHeartbeats 4000000 in
set_option maxRecDepth 100000 in
theorem la_I  (l : Launch) (hl0 : l.stackTraces = false) (hRf : 24 ≤ R.frames) (hRl : 700 ≤ R.locals) (C : jC p s m meth c cL_law 18 (some .boolean) RL wsL_law D (jT aI aJ aZ) args A nm) (hXs : jXs A s s.heap) (u : TU st tt) (hz : ∀ z, sNl st ≤ z → F z = 0) (hn9 : ∀ z, z < sNl st → F z = pv (sL st z)) (hi1 : i < sNl st) (hj1 : jj < sNr st) (hE : sE st i jj = true) (hP : va_P D vwCl (HC aI aJ h st j ++ (HC aI aJ g tt jt ++ ([(fa, .inl (aI, 12, .inl F))]))) H) (hD : va_D A (HC aI aJ h st j ++ (HC aI aJ g tt jt ++ ([(fa, .inl (aI, 12, .inl F))])))) (hS : va_S A s.heap H locs) (hl : lv_has ls 18 [(0, .ref b), (1, .ref (h 0)), (2, .ref (g 0)), (3, .ref fa), (4, .int (nI th)), (5, .int (nI wd)), (6, .int (nI 1)), (7, .int (nI k)), (8, .int (nI x)), (9, .int (nI (x / 16))), (10, .int (nI (x % 16))), (11, .int (nI (sN st))), (12, .int (nI i)), (13, .int (nI jj)), (14, .int (nI (b2n (sE st i jj)))), (15, .int (nI (b2n (decide (sL st i = some jj))))), (16, .int (nI (b2n (sE st i jj && iAl (sE st) (sL st) (sR st) (sNl st) (sNr st) i jj))))]) (hRc : cells + 34 ≤ R.cells) (hRs : slots + 204 ≤ R.slots) (kk : ∀ (st tt : St) (j jt : Jk) (F : Nat → Int32) (H : Heap) (locs : List Loc) (ls : Array Slot) (c1 s1 : Nat), (TU st tt) → (∀ z, sNl st ≤ z → F z = 0) → va_P D vwCl (HC aI aJ h st j ++ (HC aI aJ g tt jt ++ ([(fa, .inl (aI, 12, .inl F))]))) H → va_D A (HC aI aJ h st j ++ (HC aI aJ g tt jt ++ ([(fa, .inl (aI, 12, .inl F))]))) → va_S A s.heap H locs → lv_has ls 18 [(0, .ref b), (1, .ref (h 0)), (2, .ref (g 0)), (3, .ref fa), (4, .int (nI th)), (5, .int (nI wd)), (6, .int (nI 1)), (7, .int (nI k)), (8, .int (nI x)), (9, .int (nI (x / 16)))] → c1 ≤ cells + 34 → s1 ≤ slots + 204 → W p l e R s m args below meth c H locs c1 s1 Q (F0 m 568 ls [])) : W p l e R s m args below meth c H locs cells slots Q (F0 m 402 ls []) := by
  obtain ⟨hx, hb, hml, hown, hts, hK, hA, hlocks, hr, hn, hN⟩ := id C
  have hi := u.hs
  have hj := u.ht
  have hnl := u.hnl
  have hnr := u.hnr
  have hmL := u.hs.b12
  have htl : sNl tt ≤ 12 := u.ht.1
  have htr : sNr tt ≤ 12 := u.ht.2.1
  have hneed := hi.need hE j.2.1
  have hdn := hi.disn i jj j.2.1
  have hsub : nI (sN st) - nI (b2n (lost st i jj j.2.1)) = nI (sN (disS st i jj j.2.1)) := by
      rw [pk_sub (by omega)]
      exact congrArg nI (by omega)
  have u2 : TU (disS st i jj j.2.1) (disS tt jj i jt.2.1) := u.dis hE _ _
  have hnl2 : sNl (disS st i jj j.2.1) ≤ 12 := u2.hs.1
  refine lv_aload_n hx hb dL_law_402 rfl (lv_at hl 1 rfl) ?_
  refine lv_iload hx hb dL_law_403 (lv_at hl 12 rfl) ?_
  refine lv_iload hx hb dL_law_405 (lv_at hl 13 rfl) ?_
  refine j_calliM (vx_runSW (As := [.ref (h 0), .int (nI i), .int (nI jj)]) (rest := []) C.fix (c_L_parted l hl0 D aI aJ aZ h st j (nI i) (nI jj) hi H.size) (vx_cwSW 3 hts gL_law_L_parted rfl rfl rfl (by decide +kernel) ⟨Nat.le_trans (m := 24) (Nat.le_of_ble_eq_true rfl) hRf, Nat.le_trans (m := 700) (Nat.le_of_ble_eq_true rfl) hRl⟩) (jxPreS hXs hA hS hN hK hP hD [0, 1, 2, 3, 4, 5, 6, 7, 8, 9, 10, 11, 12, 13, 14, 15, 16, 17, 18, 19, 20] rfl rfl (by decide)) rfl rfl hl.1 rfl (lv_room (Nat.le_of_ble_eq_true rfl)) dL_law_407 ⟨by omega, by omega⟩) hA hP hD hS [0, 1, 2, 3, 4, 5, 6, 7, 8, 9, 10, 11, 12, 13, 14, 15, 16, 17, 18, 19, 20] [21, 22, 23, 24, 25, 26, 27, 28, 29, 30, 31, 32, 33, 34, 35, 36, 37, 38, 39, 40, 41, 42] (wr := HC aI aJ g tt jt ++ ([(fa, .inl (aI, 12, .inl F))])) rfl rfl (by decide) (by decide) (fun r_407 u_407 H locs q_407 hP hD hS => ?_)
  have hP := hP.sub (ws' := HC aI aJ h u_407.1 u_407.2 ++ (HC aI aJ g tt jt ++ ([(fa, .inl (aI, 12, .inl F))]))) [22, 23, 24, 25, 26, 27, 28, 29, 30, 31, 32, 33, 34, 35, 36, 37, 38, 39, 40, 41, 42, 0, 1, 2, 3, 4, 5, 6, 7, 8, 9, 10, 11, 12, 13, 14, 15, 16, 17, 18, 19, 20, 21] rfl
  have hD := hD.sub (ws' := HC aI aJ h u_407.1 u_407.2 ++ (HC aI aJ g tt jt ++ ([(fa, .inl (aI, 12, .inl F))]))) [22, 23, 24, 25, 26, 27, 28, 29, 30, 31, 32, 33, 34, 35, 36, 37, 38, 39, 40, 41, 42, 0, 1, 2, 3, 4, 5, 6, 7, 8, 9, 10, 11, 12, 13, 14, 15, 16, 17, 18, 19, 20, 21] (by decide) rfl
  have hP : va_P D vwCl (HC aI aJ h u_407.1 u_407.2 ++ (HC aI aJ g tt jt ++ ([(fa, .inl (aI, 12, .inl F))]))) H := hP
  have hD : va_D A (HC aI aJ h u_407.1 u_407.2 ++ (HC aI aJ g tt jt ++ ([(fa, .inl (aI, 12, .inl F))]))) := hD
  have et_407 := (pa_ok (ix_of (by omega) hi1 rfl) (ix_of (by omega) hj1 rfl) hE q_407).1
  have er_407 := (pa_ok (ix_of (by omega) hi1 rfl) (ix_of (by omega) hj1 rfl) hE q_407).2
  rw [et_407] at hP hD
  have hP : va_P D vwCl (HC aI aJ h (disS st i jj j.2.1) u_407.2 ++ (HC aI aJ g tt jt ++ ([(fa, .inl (aI, 12, .inl F))]))) H := hP
  have hD : va_D A (HC aI aJ h (disS st i jj j.2.1) u_407.2 ++ (HC aI aJ g tt jt ++ ([(fa, .inl (aI, 12, .inl F))]))) := hD
  refine j_topi (y := nI (b2n (lost st i jj j.2.1))) er_407 ?_
  refine lv_istore (lv' := [(17, .int (nI (b2n (lost st i jj j.2.1)))), (0, .ref b), (1, .ref (h 0)), (2, .ref (g 0)), (3, .ref fa), (4, .int (nI th)), (5, .int (nI wd)), (6, .int (nI 1)), (7, .int (nI k)), (8, .int (nI x)), (9, .int (nI (x / 16))), (10, .int (nI (x % 16))), (11, .int (nI (sN st))), (12, .int (nI i)), (13, .int (nI jj)), (14, .int (nI (b2n (sE st i jj)))), (15, .int (nI (b2n (decide (sL st i = some jj))))), (16, .int (nI (b2n (sE st i jj && iAl (sE st) (sL st) (sR st) (sNl st) (sNr st) i jj))))]) hx hb dL_law_410 hl (by decide) rfl (fun ls hl => ?_)
  refine lv_iload hx hb dL_law_412 (lv_at hl 7 rfl) ?_
  refine lv_if_eq (tgt := 488) hx hb dL_law_414 (by decide) (fun c_414 => ?_) (fun c_414 => ?_)
  · exact absurd c_414 (by decide)
  · clear c_414
    refine lv_iload hx hb dL_law_417 (lv_at hl 0 rfl) ?_
    refine lv_aload_n hx hb dL_law_419 rfl (lv_at hl 3 rfl) ?_
    refine lv_iload hx hb dL_law_420 (lv_at hl 14 rfl) ?_
    refine lv_iload hx hb dL_law_422 (lv_at hl 13 rfl) ?_
    refine j_calliM (vx_runSW (As := [.ref (g 0), .int (nI jj), .int (nI i)]) (rest := [.int (nI (b2n (lost st i jj j.2.1)))]) C.fix (c_L_parted l hl0 D aI aJ aZ g tt jt (nI jj) (nI i) hj H.size) (vx_cwSW 3 hts gL_law_L_parted rfl rfl rfl (by decide +kernel) ⟨Nat.le_trans (m := 24) (Nat.le_of_ble_eq_true rfl) hRf, Nat.le_trans (m := 700) (Nat.le_of_ble_eq_true rfl) hRl⟩) (jxPreS hXs hA hS hN hK hP hD [21, 22, 23, 24, 25, 26, 27, 28, 29, 30, 31, 32, 33, 34, 35, 36, 37, 38, 39, 40, 41] rfl rfl (by decide)) rfl rfl hl.1 rfl (lv_room (Nat.le_of_ble_eq_true rfl)) dL_law_424 ⟨by omega, by omega⟩) hA hP hD hS [21, 22, 23, 24, 25, 26, 27, 28, 29, 30, 31, 32, 33, 34, 35, 36, 37, 38, 39, 40, 41] [0, 1, 2, 3, 4, 5, 6, 7, 8, 9, 10, 11, 12, 13, 14, 15, 16, 17, 18, 19, 20, 42] (wr := HC aI aJ h (disS st i jj j.2.1) u_407.2 ++ ([(fa, .inl (aI, 12, .inl F))])) rfl rfl (by decide) (by decide) (fun r_424 u_424 H locs q_424 hP hD hS => ?_)
    have hP := hP.sub (ws' := HC aI aJ h (disS st i jj j.2.1) u_407.2 ++ (HC aI aJ g u_424.1 u_424.2 ++ ([(fa, .inl (aI, 12, .inl F))]))) [0, 1, 2, 3, 4, 5, 6, 7, 8, 9, 10, 11, 12, 13, 14, 15, 16, 17, 18, 19, 20, 22, 23, 24, 25, 26, 27, 28, 29, 30, 31, 32, 33, 34, 35, 36, 37, 38, 39, 40, 41, 42, 21] rfl
    have hD := hD.sub (ws' := HC aI aJ h (disS st i jj j.2.1) u_407.2 ++ (HC aI aJ g u_424.1 u_424.2 ++ ([(fa, .inl (aI, 12, .inl F))]))) [0, 1, 2, 3, 4, 5, 6, 7, 8, 9, 10, 11, 12, 13, 14, 15, 16, 17, 18, 19, 20, 22, 23, 24, 25, 26, 27, 28, 29, 30, 31, 32, 33, 34, 35, 36, 37, 38, 39, 40, 41, 42, 21] (by decide) rfl
    have hP : va_P D vwCl (HC aI aJ h (disS st i jj j.2.1) u_407.2 ++ (HC aI aJ g u_424.1 u_424.2 ++ ([(fa, .inl (aI, 12, .inl F))]))) H := hP
    have hD : va_D A (HC aI aJ h (disS st i jj j.2.1) u_407.2 ++ (HC aI aJ g u_424.1 u_424.2 ++ ([(fa, .inl (aI, 12, .inl F))]))) := hD
    have et_424 := (pa_ok (ix_of (by omega) (by rw [u.nl]; exact hj1) rfl) (ix_of (by omega) (by rw [u.nr]; exact hi1) rfl) (by rw [u.has]; exact hE) q_424).1
    have er_424 := (pa_ok (ix_of (by omega) (by rw [u.nl]; exact hj1) rfl) (ix_of (by omega) (by rw [u.nr]; exact hi1) rfl) (by rw [u.has]; exact hE) q_424).2
    rw [et_424] at hP hD
    have hP : va_P D vwCl (HC aI aJ h (disS st i jj j.2.1) u_407.2 ++ (HC aI aJ g (disS tt jj i jt.2.1) u_424.2 ++ ([(fa, .inl (aI, 12, .inl F))]))) H := hP
    have hD : va_D A (HC aI aJ h (disS st i jj j.2.1) u_407.2 ++ (HC aI aJ g (disS tt jj i jt.2.1) u_424.2 ++ ([(fa, .inl (aI, 12, .inl F))]))) := hD
    have er_424 := er_424.trans (u.lost hE j.2.1 _)
    refine j_topi (y := nI (b2n (lost st i jj j.2.1))) er_424 ?_
    refine lv_icmp_ne (tgt := 488) hx hb dL_law_427 (by decide) (fun c_427 => ?_) (fun c_427 => ?_)
    · exact absurd rfl c_427
    · clear c_427
      refine lv_aload_n hx hb dL_law_430 rfl (lv_at hl 2 rfl) ?_
      refine j_calli (va_runV (As := []) (rest := []) C.fix (k_size l D aI aJ aZ h (disS st i jj j.2.1) u_407.2 u2.hs H.size) (cwV 0 hts gL_law_X6_size rfl rfl rfl (by decide +kernel) ⟨Nat.le_trans (m := 24) (Nat.le_of_ble_eq_true rfl) hRf, Nat.le_trans (m := 700) (Nat.le_of_ble_eq_true rfl) hRl⟩) (jPreV hN hK hP hD [0, 1, 2, 3, 4, 5, 6, 7, 8, 9, 10, 11, 12, 13, 14, 15, 16, 17, 18, 19, 20] rfl rfl (by decide) (ci := 6) (q0 := 0) rfl rfl) rfl rfl hl.1 rfl (lv_room (Nat.le_of_ble_eq_true rfl)) dL_law_431 ⟨by omega, by omega⟩) hA hP hD hS [0, 1, 2, 3, 4, 5, 6, 7, 8, 9, 10, 11, 12, 13, 14, 15, 16, 17, 18, 19, 20] [21, 22, 23, 24, 25, 26, 27, 28, 29, 30, 31, 32, 33, 34, 35, 36, 37, 38, 39, 40, 41, 42] (wr := HC aI aJ g (disS tt jj i jt.2.1) u_424.2 ++ ([(fa, .inl (aI, 12, .inl F))])) rfl rfl (by decide) (by decide) (fun r_431 u_431 H locs q_431 hP hD hS => ?_)
      have hP := hP.sub (ws' := HC aI aJ h (disS st i jj j.2.1) u_431 ++ (HC aI aJ g (disS tt jj i jt.2.1) u_424.2 ++ ([(fa, .inl (aI, 12, .inl F))]))) [22, 23, 24, 25, 26, 27, 28, 29, 30, 31, 32, 33, 34, 35, 36, 37, 38, 39, 40, 41, 42, 0, 1, 2, 3, 4, 5, 6, 7, 8, 9, 10, 11, 12, 13, 14, 15, 16, 17, 18, 19, 20, 21] rfl
      have hD := hD.sub (ws' := HC aI aJ h (disS st i jj j.2.1) u_431 ++ (HC aI aJ g (disS tt jj i jt.2.1) u_424.2 ++ ([(fa, .inl (aI, 12, .inl F))]))) [22, 23, 24, 25, 26, 27, 28, 29, 30, 31, 32, 33, 34, 35, 36, 37, 38, 39, 40, 41, 42, 0, 1, 2, 3, 4, 5, 6, 7, 8, 9, 10, 11, 12, 13, 14, 15, 16, 17, 18, 19, 20, 21] (by decide) rfl
      have hP : va_P D vwCl (HC aI aJ h (disS st i jj j.2.1) u_431 ++ (HC aI aJ g (disS tt jj i jt.2.1) u_424.2 ++ ([(fa, .inl (aI, 12, .inl F))]))) H := hP
      have hD : va_D A (HC aI aJ h (disS st i jj j.2.1) u_431 ++ (HC aI aJ g (disS tt jj i jt.2.1) u_424.2 ++ ([(fa, .inl (aI, 12, .inl F))]))) := hD
      refine j_topi (y := nI (sN (disS st i jj j.2.1))) (q_431) ?_
      refine lv_iload hx hb dL_law_434 (lv_at hl 12 rfl) ?_
      refine lv_iload hx hb dL_law_436 (lv_at hl 0 rfl) ?_
      refine lv_isub hx hb dL_law_438 ?_
      refine j_topi (y := nI (sN (disS st i jj j.2.1))) (hsub) ?_
      refine lv_icmp_ne (tgt := 488) hx hb dL_law_439 (by decide) (fun c_439 => ?_) (fun c_439 => ?_)
      · exact absurd rfl c_439
      · clear c_439
        refine lv_iload hx hb dL_law_442 (lv_at hl 0 rfl) ?_
        refine lv_iload hx hb dL_law_444 (lv_at hl 17 rfl) ?_
        refine lv_if_eq (tgt := 453) hx hb dL_law_446 (by decide) (fun c_446 => ?_) (fun c_446 => ?_)
        · have hnd : lost st i jj j.2.1 = false := by
              rw [hneed]
              cases q : iAl (sE st) (sL st) (sR st) (sNl st) (sNr st) i jj with
              | false => rfl
              | true => rw [hE, q] at c_446; exact absurd c_446 (by decide)
          refine lv_iconst (v := nI 0) hx hb dL_law_453 (by decide) ?_
          refine lv_icmp_ne (tgt := 488) hx hb dL_law_454 (by decide) (fun c_454 => ?_) (fun c_454 => ?_)
          · exact absurd (by rw [hnd]; rfl) c_454
          · clear c_454
            refine lv_iload hx hb dL_law_457 (lv_at hl 16 rfl) ?_
            refine lv_if_eq (tgt := 476) hx hb dL_law_459 (by decide) (fun c_459 => ?_) (fun c_459 => ?_)
            · have hM : ¬ sL st i = some jj := by
                  intro q
                  rw [decide_eq_true q] at c_459
                  exact absurd c_459 (by decide)
              refine lv_aload_n hx hb dL_law_476 rfl (lv_at hl 2 rfl) ?_
              refine lv_aload_n hx hb dL_law_477 rfl (lv_at hl 4 rfl) ?_
              refine j_calliM (va_runS (As := [.ref (h 0), .ref fa]) (rest := []) C.fix (c_L_changed l hl0 D aI aJ aZ h fa (disS st i jj j.2.1) u_431 F (u2.hs) H.size) (va_cwS 2 hts gL_law_L_changed rfl rfl rfl (by decide +kernel) ⟨Nat.le_trans (m := 24) (Nat.le_of_ble_eq_true rfl) hRf, Nat.le_trans (m := 700) (Nat.le_of_ble_eq_true rfl) hRl⟩) (jxPreS hXs hA hS hN hK hP hD [0, 1, 2, 3, 4, 5, 6, 7, 8, 9, 10, 11, 12, 13, 14, 15, 16, 17, 18, 19, 20, 42] rfl rfl (by decide)) rfl rfl hl.1 rfl (lv_room (Nat.le_of_ble_eq_true rfl)) dL_law_478 ⟨by omega, by omega⟩) hA hP hD hS [0, 1, 2, 3, 4, 5, 6, 7, 8, 9, 10, 11, 12, 13, 14, 15, 16, 17, 18, 19, 20, 42] [21, 22, 23, 24, 25, 26, 27, 28, 29, 30, 31, 32, 33, 34, 35, 36, 37, 38, 39, 40, 41] (wr := HC aI aJ g (disS tt jj i jt.2.1) u_424.2) rfl rfl (by decide) (by decide) (fun r_478 u_478 H locs q_478 hP hD hS => ?_)
              have hP := hP.sub (ws' := HC aI aJ h (disS st i jj j.2.1) u_478 ++ (HC aI aJ g (disS tt jj i jt.2.1) u_424.2 ++ ([(fa, .inl (aI, 12, .inl (nf F (sL (disS st i jj j.2.1)) (sNl (disS st i jj j.2.1)))))]))) [21, 22, 23, 24, 25, 26, 27, 28, 29, 30, 31, 32, 33, 34, 35, 36, 37, 38, 39, 40, 41, 0, 1, 2, 3, 4, 5, 6, 7, 8, 9, 10, 11, 12, 13, 14, 15, 16, 17, 18, 19, 20, 42] rfl
              have hD := hD.sub (ws' := HC aI aJ h (disS st i jj j.2.1) u_478 ++ (HC aI aJ g (disS tt jj i jt.2.1) u_424.2 ++ ([(fa, .inl (aI, 12, .inl (nf F (sL (disS st i jj j.2.1)) (sNl (disS st i jj j.2.1)))))]))) [21, 22, 23, 24, 25, 26, 27, 28, 29, 30, 31, 32, 33, 34, 35, 36, 37, 38, 39, 40, 41, 0, 1, 2, 3, 4, 5, 6, 7, 8, 9, 10, 11, 12, 13, 14, 15, 16, 17, 18, 19, 20, 42] (by decide) rfl
              have hP : va_P D vwCl (HC aI aJ h (disS st i jj j.2.1) u_478 ++ (HC aI aJ g (disS tt jj i jt.2.1) u_424.2 ++ ([(fa, .inl (aI, 12, .inl (nf F (sL (disS st i jj j.2.1)) (sNl (disS st i jj j.2.1)))))]))) H := hP
              have hD : va_D A (HC aI aJ h (disS st i jj j.2.1) u_478 ++ (HC aI aJ g (disS tt jj i jt.2.1) u_424.2 ++ ([(fa, .inl (aI, 12, .inl (nf F (sL (disS st i jj j.2.1)) (sNl (disS st i jj j.2.1)))))]))) := hD
              refine j_topi (y := nI 0) (q_478.trans (congrArg nI (chg_0 (fun z hz1 => by rw [dis_same hM]; exact hn9 z hz1)))) ?_
              refine lv_if_ne (tgt := 488) hx hb dL_law_481 (by decide) (fun c_481 => ?_) (fun c_481 => ?_)
              · exact absurd c_481 (by decide)
              · clear c_481
                refine lv_iconst (v := nI 1) hx hb dL_law_484 (by decide) ?_
                refine lv_goto (tgt := 489) hx hb dL_law_485 (by decide) ?_
                refine lv_istore (lv' := [(6, .int (nI 1)), (17, .int (nI (b2n (lost st i jj j.2.1)))), (0, .ref b), (1, .ref (h 0)), (2, .ref (g 0)), (3, .ref fa), (4, .int (nI th)), (5, .int (nI wd)), (7, .int (nI k)), (8, .int (nI x)), (9, .int (nI (x / 16))), (10, .int (nI (x % 16))), (11, .int (nI (sN st))), (12, .int (nI i)), (13, .int (nI jj)), (14, .int (nI (b2n (sE st i jj)))), (15, .int (nI (b2n (decide (sL st i = some jj))))), (16, .int (nI (b2n (sE st i jj && iAl (sE st) (sL st) (sR st) (sNl st) (sNr st) i jj))))]) hx hb dL_law_489 hl (by decide) rfl (fun ls hl => ?_)
                refine lv_goto (tgt := 568) hx hb dL_law_491 (by decide) ?_
                have hl := lv_sub (l' := [(0, .ref b), (1, .ref (h 0)), (2, .ref (g 0)), (3, .ref fa), (4, .int (nI th)), (5, .int (nI wd)), (6, .int (nI 1)), (7, .int (nI k)), (8, .int (nI x)), (9, .int (nI (x / 16)))]) hl [2, 3, 4, 5, 6, 7, 0, 8, 9, 10] rfl
                exact kk (disS st i jj j.2.1) (disS tt jj i jt.2.1) u_478 u_424.2 (nf F (sL (disS st i jj j.2.1)) (sNl (disS st i jj j.2.1))) H _ ls _ _ (u.dis hE _ _) (fun z hz1 => by
                    rw [nf_out (show sNl (disS st i jj j.2.1) ≤ z from hz1)]
                    exact hz z hz1) hP hD hS hl (by omega) (by omega)
            · have hM : sL st i = some jj := by
                  refine Classical.byContradiction (fun q => c_459 ?_)
                  rw [decide_eq_false q]
                  rfl
              refine lv_aload_n hx hb dL_law_462 rfl (lv_at hl 2 rfl) ?_
              refine lv_iload hx hb dL_law_463 (lv_at hl 13 rfl) ?_
              refine j_calliM (vx_runSW (As := [.ref (h 0), .int (nI i)]) (rest := []) C.fix (c_L_ofLeft l hl0 D aI aJ aZ h (disS st i jj j.2.1) u_431 (nI i) u2.hs H.size) (vx_cwSW 2 hts gL_law_L_ofLeft rfl rfl rfl (by decide +kernel) ⟨Nat.le_trans (m := 24) (Nat.le_of_ble_eq_true rfl) hRf, Nat.le_trans (m := 700) (Nat.le_of_ble_eq_true rfl) hRl⟩) (jxPreS hXs hA hS hN hK hP hD [0, 1, 2, 3, 4, 5, 6, 7, 8, 9, 10, 11, 12, 13, 14, 15, 16, 17, 18, 19, 20] rfl rfl (by decide)) rfl rfl hl.1 rfl (lv_room (Nat.le_of_ble_eq_true rfl)) dL_law_465 ⟨by omega, by omega⟩) hA hP hD hS [0, 1, 2, 3, 4, 5, 6, 7, 8, 9, 10, 11, 12, 13, 14, 15, 16, 17, 18, 19, 20] [21, 22, 23, 24, 25, 26, 27, 28, 29, 30, 31, 32, 33, 34, 35, 36, 37, 38, 39, 40, 41, 42] (wr := HC aI aJ g (disS tt jj i jt.2.1) u_424.2 ++ ([(fa, .inl (aI, 12, .inl F))])) rfl rfl (by decide) (by decide) (fun r_465 u_465 H locs q_465 hP hD hS => ?_)
              have hP := hP.sub (ws' := HC aI aJ h (disS st i jj j.2.1) u_465 ++ (HC aI aJ g (disS tt jj i jt.2.1) u_424.2 ++ ([(fa, .inl (aI, 12, .inl F))]))) [22, 23, 24, 25, 26, 27, 28, 29, 30, 31, 32, 33, 34, 35, 36, 37, 38, 39, 40, 41, 42, 0, 1, 2, 3, 4, 5, 6, 7, 8, 9, 10, 11, 12, 13, 14, 15, 16, 17, 18, 19, 20, 21] rfl
              have hD := hD.sub (ws' := HC aI aJ h (disS st i jj j.2.1) u_465 ++ (HC aI aJ g (disS tt jj i jt.2.1) u_424.2 ++ ([(fa, .inl (aI, 12, .inl F))]))) [22, 23, 24, 25, 26, 27, 28, 29, 30, 31, 32, 33, 34, 35, 36, 37, 38, 39, 40, 41, 42, 0, 1, 2, 3, 4, 5, 6, 7, 8, 9, 10, 11, 12, 13, 14, 15, 16, 17, 18, 19, 20, 21] (by decide) rfl
              have hP : va_P D vwCl (HC aI aJ h (disS st i jj j.2.1) u_465 ++ (HC aI aJ g (disS tt jj i jt.2.1) u_424.2 ++ ([(fa, .inl (aI, 12, .inl F))]))) H := hP
              have hD : va_D A (HC aI aJ h (disS st i jj j.2.1) u_465 ++ (HC aI aJ g (disS tt jj i jt.2.1) u_424.2 ++ ([(fa, .inl (aI, 12, .inl F))]))) := hD
              refine j_topi (y := pv (sL (disS st i jj j.2.1) i)) (ol_at (ix_of (by omega) hi1 rfl) q_465) ?_
              refine lv_iload hx hb dL_law_468 (lv_at hl 14 rfl) ?_
              refine lv_icmp_eq (tgt := 488) hx hb dL_law_470 (by decide) (fun c_470 => ?_) (fun c_470 => ?_)
              · exact absurd (pv_inj (o2 := some jj) (u2.hs.b12 i) (fun v hv => by cases hv; omega) c_470) (hi.gone hE _)
              · clear c_470
                refine lv_goto (tgt := 484) hx hb dL_law_473 (by decide) ?_
                refine lv_iconst (v := nI 1) hx hb dL_law_484 (by decide) ?_
                refine lv_goto (tgt := 489) hx hb dL_law_485 (by decide) ?_
                refine lv_istore (lv' := [(6, .int (nI 1)), (17, .int (nI (b2n (lost st i jj j.2.1)))), (0, .ref b), (1, .ref (h 0)), (2, .ref (g 0)), (3, .ref fa), (4, .int (nI th)), (5, .int (nI wd)), (7, .int (nI k)), (8, .int (nI x)), (9, .int (nI (x / 16))), (10, .int (nI (x % 16))), (11, .int (nI (sN st))), (12, .int (nI i)), (13, .int (nI jj)), (14, .int (nI (b2n (sE st i jj)))), (15, .int (nI (b2n (decide (sL st i = some jj))))), (16, .int (nI (b2n (sE st i jj && iAl (sE st) (sL st) (sR st) (sNl st) (sNr st) i jj))))]) hx hb dL_law_489 hl (by decide) rfl (fun ls hl => ?_)
                refine lv_goto (tgt := 568) hx hb dL_law_491 (by decide) ?_
                have hl := lv_sub (l' := [(0, .ref b), (1, .ref (h 0)), (2, .ref (g 0)), (3, .ref fa), (4, .int (nI th)), (5, .int (nI wd)), (6, .int (nI 1)), (7, .int (nI k)), (8, .int (nI x)), (9, .int (nI (x / 16)))]) hl [2, 3, 4, 5, 6, 7, 0, 8, 9, 10] rfl
                exact kk (disS st i jj j.2.1) (disS tt jj i jt.2.1) u_465 u_424.2 F H _ ls _ _ (u.dis hE _ _) (fun z hz1 => hz z hz1) hP hD hS hl (by omega) (by omega)
        · have hnd : lost st i jj j.2.1 = true := by
              rw [hneed]
              cases q : iAl (sE st) (sL st) (sR st) (sNl st) (sNr st) i jj with
              | true => rfl
              | false => rw [q, Bool.and_false] at c_446; exact absurd rfl c_446
          refine lv_iconst (v := nI 1) hx hb dL_law_449 (by decide) ?_
          refine lv_goto (tgt := 454) hx hb dL_law_450 (by decide) ?_
          refine lv_icmp_ne (tgt := 488) hx hb dL_law_454 (by decide) (fun c_454 => ?_) (fun c_454 => ?_)
          · exact absurd (by rw [hnd]; rfl) c_454
          · clear c_454
            refine lv_iload hx hb dL_law_457 (lv_at hl 16 rfl) ?_
            refine lv_if_eq (tgt := 476) hx hb dL_law_459 (by decide) (fun c_459 => ?_) (fun c_459 => ?_)
            · have hM : ¬ sL st i = some jj := by
                  intro q
                  rw [decide_eq_true q] at c_459
                  exact absurd c_459 (by decide)
              refine lv_aload_n hx hb dL_law_476 rfl (lv_at hl 2 rfl) ?_
              refine lv_aload_n hx hb dL_law_477 rfl (lv_at hl 4 rfl) ?_
              refine j_calliM (va_runS (As := [.ref (h 0), .ref fa]) (rest := []) C.fix (c_L_changed l hl0 D aI aJ aZ h fa (disS st i jj j.2.1) u_431 F (u2.hs) H.size) (va_cwS 2 hts gL_law_L_changed rfl rfl rfl (by decide +kernel) ⟨Nat.le_trans (m := 24) (Nat.le_of_ble_eq_true rfl) hRf, Nat.le_trans (m := 700) (Nat.le_of_ble_eq_true rfl) hRl⟩) (jxPreS hXs hA hS hN hK hP hD [0, 1, 2, 3, 4, 5, 6, 7, 8, 9, 10, 11, 12, 13, 14, 15, 16, 17, 18, 19, 20, 42] rfl rfl (by decide)) rfl rfl hl.1 rfl (lv_room (Nat.le_of_ble_eq_true rfl)) dL_law_478 ⟨by omega, by omega⟩) hA hP hD hS [0, 1, 2, 3, 4, 5, 6, 7, 8, 9, 10, 11, 12, 13, 14, 15, 16, 17, 18, 19, 20, 42] [21, 22, 23, 24, 25, 26, 27, 28, 29, 30, 31, 32, 33, 34, 35, 36, 37, 38, 39, 40, 41] (wr := HC aI aJ g (disS tt jj i jt.2.1) u_424.2) rfl rfl (by decide) (by decide) (fun r_478 u_478 H locs q_478 hP hD hS => ?_)
              have hP := hP.sub (ws' := HC aI aJ h (disS st i jj j.2.1) u_478 ++ (HC aI aJ g (disS tt jj i jt.2.1) u_424.2 ++ ([(fa, .inl (aI, 12, .inl (nf F (sL (disS st i jj j.2.1)) (sNl (disS st i jj j.2.1)))))]))) [21, 22, 23, 24, 25, 26, 27, 28, 29, 30, 31, 32, 33, 34, 35, 36, 37, 38, 39, 40, 41, 0, 1, 2, 3, 4, 5, 6, 7, 8, 9, 10, 11, 12, 13, 14, 15, 16, 17, 18, 19, 20, 42] rfl
              have hD := hD.sub (ws' := HC aI aJ h (disS st i jj j.2.1) u_478 ++ (HC aI aJ g (disS tt jj i jt.2.1) u_424.2 ++ ([(fa, .inl (aI, 12, .inl (nf F (sL (disS st i jj j.2.1)) (sNl (disS st i jj j.2.1)))))]))) [21, 22, 23, 24, 25, 26, 27, 28, 29, 30, 31, 32, 33, 34, 35, 36, 37, 38, 39, 40, 41, 0, 1, 2, 3, 4, 5, 6, 7, 8, 9, 10, 11, 12, 13, 14, 15, 16, 17, 18, 19, 20, 42] (by decide) rfl
              have hP : va_P D vwCl (HC aI aJ h (disS st i jj j.2.1) u_478 ++ (HC aI aJ g (disS tt jj i jt.2.1) u_424.2 ++ ([(fa, .inl (aI, 12, .inl (nf F (sL (disS st i jj j.2.1)) (sNl (disS st i jj j.2.1)))))]))) H := hP
              have hD : va_D A (HC aI aJ h (disS st i jj j.2.1) u_478 ++ (HC aI aJ g (disS tt jj i jt.2.1) u_424.2 ++ ([(fa, .inl (aI, 12, .inl (nf F (sL (disS st i jj j.2.1)) (sNl (disS st i jj j.2.1)))))]))) := hD
              refine j_topi (y := nI 0) (q_478.trans (congrArg nI (chg_0 (fun z hz1 => by rw [dis_same hM]; exact hn9 z hz1)))) ?_
              refine lv_if_ne (tgt := 488) hx hb dL_law_481 (by decide) (fun c_481 => ?_) (fun c_481 => ?_)
              · exact absurd c_481 (by decide)
              · clear c_481
                refine lv_iconst (v := nI 1) hx hb dL_law_484 (by decide) ?_
                refine lv_goto (tgt := 489) hx hb dL_law_485 (by decide) ?_
                refine lv_istore (lv' := [(6, .int (nI 1)), (17, .int (nI (b2n (lost st i jj j.2.1)))), (0, .ref b), (1, .ref (h 0)), (2, .ref (g 0)), (3, .ref fa), (4, .int (nI th)), (5, .int (nI wd)), (7, .int (nI k)), (8, .int (nI x)), (9, .int (nI (x / 16))), (10, .int (nI (x % 16))), (11, .int (nI (sN st))), (12, .int (nI i)), (13, .int (nI jj)), (14, .int (nI (b2n (sE st i jj)))), (15, .int (nI (b2n (decide (sL st i = some jj))))), (16, .int (nI (b2n (sE st i jj && iAl (sE st) (sL st) (sR st) (sNl st) (sNr st) i jj))))]) hx hb dL_law_489 hl (by decide) rfl (fun ls hl => ?_)
                refine lv_goto (tgt := 568) hx hb dL_law_491 (by decide) ?_
                have hl := lv_sub (l' := [(0, .ref b), (1, .ref (h 0)), (2, .ref (g 0)), (3, .ref fa), (4, .int (nI th)), (5, .int (nI wd)), (6, .int (nI 1)), (7, .int (nI k)), (8, .int (nI x)), (9, .int (nI (x / 16)))]) hl [2, 3, 4, 5, 6, 7, 0, 8, 9, 10] rfl
                exact kk (disS st i jj j.2.1) (disS tt jj i jt.2.1) u_478 u_424.2 (nf F (sL (disS st i jj j.2.1)) (sNl (disS st i jj j.2.1))) H _ ls _ _ (u.dis hE _ _) (fun z hz1 => by
                    rw [nf_out (show sNl (disS st i jj j.2.1) ≤ z from hz1)]
                    exact hz z hz1) hP hD hS hl (by omega) (by omega)
            · have hM : sL st i = some jj := by
                  refine Classical.byContradiction (fun q => c_459 ?_)
                  rw [decide_eq_false q]
                  rfl
              refine lv_aload_n hx hb dL_law_462 rfl (lv_at hl 2 rfl) ?_
              refine lv_iload hx hb dL_law_463 (lv_at hl 13 rfl) ?_
              refine j_calliM (vx_runSW (As := [.ref (h 0), .int (nI i)]) (rest := []) C.fix (c_L_ofLeft l hl0 D aI aJ aZ h (disS st i jj j.2.1) u_431 (nI i) u2.hs H.size) (vx_cwSW 2 hts gL_law_L_ofLeft rfl rfl rfl (by decide +kernel) ⟨Nat.le_trans (m := 24) (Nat.le_of_ble_eq_true rfl) hRf, Nat.le_trans (m := 700) (Nat.le_of_ble_eq_true rfl) hRl⟩) (jxPreS hXs hA hS hN hK hP hD [0, 1, 2, 3, 4, 5, 6, 7, 8, 9, 10, 11, 12, 13, 14, 15, 16, 17, 18, 19, 20] rfl rfl (by decide)) rfl rfl hl.1 rfl (lv_room (Nat.le_of_ble_eq_true rfl)) dL_law_465 ⟨by omega, by omega⟩) hA hP hD hS [0, 1, 2, 3, 4, 5, 6, 7, 8, 9, 10, 11, 12, 13, 14, 15, 16, 17, 18, 19, 20] [21, 22, 23, 24, 25, 26, 27, 28, 29, 30, 31, 32, 33, 34, 35, 36, 37, 38, 39, 40, 41, 42] (wr := HC aI aJ g (disS tt jj i jt.2.1) u_424.2 ++ ([(fa, .inl (aI, 12, .inl F))])) rfl rfl (by decide) (by decide) (fun r_465 u_465 H locs q_465 hP hD hS => ?_)
              have hP := hP.sub (ws' := HC aI aJ h (disS st i jj j.2.1) u_465 ++ (HC aI aJ g (disS tt jj i jt.2.1) u_424.2 ++ ([(fa, .inl (aI, 12, .inl F))]))) [22, 23, 24, 25, 26, 27, 28, 29, 30, 31, 32, 33, 34, 35, 36, 37, 38, 39, 40, 41, 42, 0, 1, 2, 3, 4, 5, 6, 7, 8, 9, 10, 11, 12, 13, 14, 15, 16, 17, 18, 19, 20, 21] rfl
              have hD := hD.sub (ws' := HC aI aJ h (disS st i jj j.2.1) u_465 ++ (HC aI aJ g (disS tt jj i jt.2.1) u_424.2 ++ ([(fa, .inl (aI, 12, .inl F))]))) [22, 23, 24, 25, 26, 27, 28, 29, 30, 31, 32, 33, 34, 35, 36, 37, 38, 39, 40, 41, 42, 0, 1, 2, 3, 4, 5, 6, 7, 8, 9, 10, 11, 12, 13, 14, 15, 16, 17, 18, 19, 20, 21] (by decide) rfl
              have hP : va_P D vwCl (HC aI aJ h (disS st i jj j.2.1) u_465 ++ (HC aI aJ g (disS tt jj i jt.2.1) u_424.2 ++ ([(fa, .inl (aI, 12, .inl F))]))) H := hP
              have hD : va_D A (HC aI aJ h (disS st i jj j.2.1) u_465 ++ (HC aI aJ g (disS tt jj i jt.2.1) u_424.2 ++ ([(fa, .inl (aI, 12, .inl F))]))) := hD
              refine j_topi (y := pv (sL (disS st i jj j.2.1) i)) (ol_at (ix_of (by omega) hi1 rfl) q_465) ?_
              refine lv_iload hx hb dL_law_468 (lv_at hl 14 rfl) ?_
              refine lv_icmp_eq (tgt := 488) hx hb dL_law_470 (by decide) (fun c_470 => ?_) (fun c_470 => ?_)
              · exact absurd (pv_inj (o2 := some jj) (u2.hs.b12 i) (fun v hv => by cases hv; omega) c_470) (hi.gone hE _)
              · clear c_470
                refine lv_goto (tgt := 484) hx hb dL_law_473 (by decide) ?_
                refine lv_iconst (v := nI 1) hx hb dL_law_484 (by decide) ?_
                refine lv_goto (tgt := 489) hx hb dL_law_485 (by decide) ?_
                refine lv_istore (lv' := [(6, .int (nI 1)), (17, .int (nI (b2n (lost st i jj j.2.1)))), (0, .ref b), (1, .ref (h 0)), (2, .ref (g 0)), (3, .ref fa), (4, .int (nI th)), (5, .int (nI wd)), (7, .int (nI k)), (8, .int (nI x)), (9, .int (nI (x / 16))), (10, .int (nI (x % 16))), (11, .int (nI (sN st))), (12, .int (nI i)), (13, .int (nI jj)), (14, .int (nI (b2n (sE st i jj)))), (15, .int (nI (b2n (decide (sL st i = some jj))))), (16, .int (nI (b2n (sE st i jj && iAl (sE st) (sL st) (sR st) (sNl st) (sNr st) i jj))))]) hx hb dL_law_489 hl (by decide) rfl (fun ls hl => ?_)
                refine lv_goto (tgt := 568) hx hb dL_law_491 (by decide) ?_
                have hl := lv_sub (l' := [(0, .ref b), (1, .ref (h 0)), (2, .ref (g 0)), (3, .ref fa), (4, .int (nI th)), (5, .int (nI wd)), (6, .int (nI 1)), (7, .int (nI k)), (8, .int (nI x)), (9, .int (nI (x / 16)))]) hl [2, 3, 4, 5, 6, 7, 0, 8, 9, 10] rfl
                exact kk (disS st i jj j.2.1) (disS tt jj i jt.2.1) u_465 u_424.2 F H _ ls _ _ (u.dis hE _ _) (fun z hz1 => hz z hz1) hP hD hS hl (by omega) (by omega)
set_option maxHeartbeats 4000000 in
set_option maxRecDepth 100000 in
theorem la_J  (l : Launch) (hl0 : l.stackTraces = false) (hRf : 24 ≤ R.frames) (hRl : 700 ≤ R.locals) (C : jC p s m meth c cL_law 18 (some .boolean) RL wsL_law D (jT aI aJ aZ) args A nm) (hXs : jXs A s s.heap) (u : TU st tt) (hz : ∀ z, sNl st ≤ z → F z = 0) (hn9 : ∀ z, z < sNl st → F z = pv (sL st z)) (hi1 : i < sNl st) (hj1 : jj < sNr st) (hE : sE st i jj = false) (hP : va_P D vwCl (HC aI aJ h st j ++ (HC aI aJ g tt jt ++ ([(fa, .inl (aI, 12, .inl F))]))) H) (hD : va_D A (HC aI aJ h st j ++ (HC aI aJ g tt jt ++ ([(fa, .inl (aI, 12, .inl F))])))) (hS : va_S A s.heap H locs) (hl : lv_has ls 18 [(0, .ref b), (1, .ref (h 0)), (2, .ref (g 0)), (3, .ref fa), (4, .int (nI th)), (5, .int (nI wd)), (6, .int (nI 1)), (7, .int (nI k)), (8, .int (nI x)), (9, .int (nI (x / 16))), (10, .int (nI (x % 16))), (11, .int (nI (sN st))), (12, .int (nI i)), (13, .int (nI jj)), (14, .int (nI (b2n (sE st i jj)))), (15, .int (nI (b2n (decide (sL st i = some jj))))), (16, .int (nI (b2n (sE st i jj && iAl (sE st) (sL st) (sR st) (sNl st) (sNr st) i jj))))]) (hRc : cells + 58 ≤ R.cells) (hRs : slots + 348 ≤ R.slots) (kk : ∀ (st tt : St) (j jt : Jk) (F : Nat → Int32) (H : Heap) (locs : List Loc) (ls : Array Slot) (c1 s1 : Nat), (TU st tt) → (∀ z, sNl st ≤ z → F z = 0) → va_P D vwCl (HC aI aJ h st j ++ (HC aI aJ g tt jt ++ ([(fa, .inl (aI, 12, .inl F))]))) H → va_D A (HC aI aJ h st j ++ (HC aI aJ g tt jt ++ ([(fa, .inl (aI, 12, .inl F))]))) → va_S A s.heap H locs → lv_has ls 18 [(0, .ref b), (1, .ref (h 0)), (2, .ref (g 0)), (3, .ref fa), (4, .int (nI th)), (5, .int (nI wd)), (6, .int (nI 1)), (7, .int (nI k)), (8, .int (nI x)), (9, .int (nI (x / 16)))] → c1 ≤ cells + 58 → s1 ≤ slots + 348 → W p l e R s m args below meth c H locs c1 s1 Q (F0 m 568 ls [])) : W p l e R s m args below meth c H locs cells slots Q (F0 m 499 ls []) := by
  obtain ⟨hx, hb, hml, hown, hts, hK, hA, hlocks, hr, hn, hN⟩ := id C
  have hi := u.hs
  have hj := u.ht
  have hnl := u.hnl
  have hnr := u.hnr
  have hmL := u.hs.b12
  have htl : sNl tt ≤ 12 := u.ht.1
  have htr : sNr tt ≤ 12 := u.ht.2.1
  have u2 : TU (conS st i jj j.2.1) (conS tt jj i jt.2.1) := u.con hi1 hj1 hE _ _
  have hfz : ∀ z, z < sNl (conS st i jj j.2.1) → (0 : Int32) ≤ F z → ∃ v, sL (conS st i jj j.2.1) z = some v := by
      intro z hz1 hz2
      rw [hn9 z hz1] at hz2
      cases q : sL st z with
      | none => rw [q] at hz2; exact absurd hz2 (by decide)
      | some v => exact con_keep q
  refine lv_aload_n hx hb dL_law_499 rfl (lv_at hl 1 rfl) ?_
  refine lv_iload hx hb dL_law_500 (lv_at hl 12 rfl) ?_
  refine lv_iload hx hb dL_law_502 (lv_at hl 13 rfl) ?_
  refine j_calliM (vx_runSW (As := [.ref (h 0), .int (nI i), .int (nI jj)]) (rest := []) C.fix (c_L_joined l hl0 D aI aJ aZ h st j (nI i) (nI jj) hi H.size) (vx_cwSW 3 hts gL_law_L_joined rfl rfl rfl (by decide +kernel) ⟨Nat.le_trans (m := 24) (Nat.le_of_ble_eq_true rfl) hRf, Nat.le_trans (m := 700) (Nat.le_of_ble_eq_true rfl) hRl⟩) (jxPreS hXs hA hS hN hK hP hD [0, 1, 2, 3, 4, 5, 6, 7, 8, 9, 10, 11, 12, 13, 14, 15, 16, 17, 18, 19, 20] rfl rfl (by decide)) rfl rfl hl.1 rfl (lv_room (Nat.le_of_ble_eq_true rfl)) dL_law_504 ⟨by omega, by omega⟩) hA hP hD hS [0, 1, 2, 3, 4, 5, 6, 7, 8, 9, 10, 11, 12, 13, 14, 15, 16, 17, 18, 19, 20] [21, 22, 23, 24, 25, 26, 27, 28, 29, 30, 31, 32, 33, 34, 35, 36, 37, 38, 39, 40, 41, 42] (wr := HC aI aJ g tt jt ++ ([(fa, .inl (aI, 12, .inl F))])) rfl rfl (by decide) (by decide) (fun r_504 u_504 H locs q_504 hP hD hS => ?_)
  have hP := hP.sub (ws' := HC aI aJ h u_504.1 u_504.2 ++ (HC aI aJ g tt jt ++ ([(fa, .inl (aI, 12, .inl F))]))) [22, 23, 24, 25, 26, 27, 28, 29, 30, 31, 32, 33, 34, 35, 36, 37, 38, 39, 40, 41, 42, 0, 1, 2, 3, 4, 5, 6, 7, 8, 9, 10, 11, 12, 13, 14, 15, 16, 17, 18, 19, 20, 21] rfl
  have hD := hD.sub (ws' := HC aI aJ h u_504.1 u_504.2 ++ (HC aI aJ g tt jt ++ ([(fa, .inl (aI, 12, .inl F))]))) [22, 23, 24, 25, 26, 27, 28, 29, 30, 31, 32, 33, 34, 35, 36, 37, 38, 39, 40, 41, 42, 0, 1, 2, 3, 4, 5, 6, 7, 8, 9, 10, 11, 12, 13, 14, 15, 16, 17, 18, 19, 20, 21] (by decide) rfl
  have hP : va_P D vwCl (HC aI aJ h u_504.1 u_504.2 ++ (HC aI aJ g tt jt ++ ([(fa, .inl (aI, 12, .inl F))]))) H := hP
  have hD : va_D A (HC aI aJ h u_504.1 u_504.2 ++ (HC aI aJ g tt jt ++ ([(fa, .inl (aI, 12, .inl F))]))) := hD
  have et_504 := (jo_ok (ix_of (by omega) hi1 rfl) (ix_of (by omega) hj1 rfl) hE q_504).1
  have er_504 := (jo_ok (ix_of (by omega) hi1 rfl) (ix_of (by omega) hj1 rfl) hE q_504).2
  rw [et_504] at hP hD
  have hP : va_P D vwCl (HC aI aJ h (conS st i jj j.2.1) u_504.2 ++ (HC aI aJ g tt jt ++ ([(fa, .inl (aI, 12, .inl F))]))) H := hP
  have hD : va_D A (HC aI aJ h (conS st i jj j.2.1) u_504.2 ++ (HC aI aJ g tt jt ++ ([(fa, .inl (aI, 12, .inl F))]))) := hD
  refine j_topi (y := nI (b2n (more st i jj j.2.1))) er_504 ?_
  refine lv_istore (lv' := [(17, .int (nI (b2n (more st i jj j.2.1)))), (0, .ref b), (1, .ref (h 0)), (2, .ref (g 0)), (3, .ref fa), (4, .int (nI th)), (5, .int (nI wd)), (6, .int (nI 1)), (7, .int (nI k)), (8, .int (nI x)), (9, .int (nI (x / 16))), (10, .int (nI (x % 16))), (11, .int (nI (sN st))), (12, .int (nI i)), (13, .int (nI jj)), (14, .int (nI (b2n (sE st i jj)))), (15, .int (nI (b2n (decide (sL st i = some jj))))), (16, .int (nI (b2n (sE st i jj && iAl (sE st) (sL st) (sR st) (sNl st) (sNr st) i jj))))]) hx hb dL_law_507 hl (by decide) rfl (fun ls hl => ?_)
  refine lv_iload hx hb dL_law_509 (lv_at hl 7 rfl) ?_
  refine lv_if_eq (tgt := 565) hx hb dL_law_511 (by decide) (fun c_511 => ?_) (fun c_511 => ?_)
  · exact absurd c_511 (by decide)
  · clear c_511
    refine lv_iload hx hb dL_law_514 (lv_at hl 0 rfl) ?_
    refine lv_aload_n hx hb dL_law_516 rfl (lv_at hl 3 rfl) ?_
    refine lv_iload hx hb dL_law_517 (lv_at hl 14 rfl) ?_
    refine lv_iload hx hb dL_law_519 (lv_at hl 13 rfl) ?_
    refine j_calliM (vx_runSW (As := [.ref (g 0), .int (nI jj), .int (nI i)]) (rest := [.int (nI (b2n (more st i jj j.2.1)))]) C.fix (c_L_joined l hl0 D aI aJ aZ g tt jt (nI jj) (nI i) hj H.size) (vx_cwSW 3 hts gL_law_L_joined rfl rfl rfl (by decide +kernel) ⟨Nat.le_trans (m := 24) (Nat.le_of_ble_eq_true rfl) hRf, Nat.le_trans (m := 700) (Nat.le_of_ble_eq_true rfl) hRl⟩) (jxPreS hXs hA hS hN hK hP hD [21, 22, 23, 24, 25, 26, 27, 28, 29, 30, 31, 32, 33, 34, 35, 36, 37, 38, 39, 40, 41] rfl rfl (by decide)) rfl rfl hl.1 rfl (lv_room (Nat.le_of_ble_eq_true rfl)) dL_law_521 ⟨by omega, by omega⟩) hA hP hD hS [21, 22, 23, 24, 25, 26, 27, 28, 29, 30, 31, 32, 33, 34, 35, 36, 37, 38, 39, 40, 41] [0, 1, 2, 3, 4, 5, 6, 7, 8, 9, 10, 11, 12, 13, 14, 15, 16, 17, 18, 19, 20, 42] (wr := HC aI aJ h (conS st i jj j.2.1) u_504.2 ++ ([(fa, .inl (aI, 12, .inl F))])) rfl rfl (by decide) (by decide) (fun r_521 u_521 H locs q_521 hP hD hS => ?_)
    have hP := hP.sub (ws' := HC aI aJ h (conS st i jj j.2.1) u_504.2 ++ (HC aI aJ g u_521.1 u_521.2 ++ ([(fa, .inl (aI, 12, .inl F))]))) [0, 1, 2, 3, 4, 5, 6, 7, 8, 9, 10, 11, 12, 13, 14, 15, 16, 17, 18, 19, 20, 22, 23, 24, 25, 26, 27, 28, 29, 30, 31, 32, 33, 34, 35, 36, 37, 38, 39, 40, 41, 42, 21] rfl
    have hD := hD.sub (ws' := HC aI aJ h (conS st i jj j.2.1) u_504.2 ++ (HC aI aJ g u_521.1 u_521.2 ++ ([(fa, .inl (aI, 12, .inl F))]))) [0, 1, 2, 3, 4, 5, 6, 7, 8, 9, 10, 11, 12, 13, 14, 15, 16, 17, 18, 19, 20, 22, 23, 24, 25, 26, 27, 28, 29, 30, 31, 32, 33, 34, 35, 36, 37, 38, 39, 40, 41, 42, 21] (by decide) rfl
    have hP : va_P D vwCl (HC aI aJ h (conS st i jj j.2.1) u_504.2 ++ (HC aI aJ g u_521.1 u_521.2 ++ ([(fa, .inl (aI, 12, .inl F))]))) H := hP
    have hD : va_D A (HC aI aJ h (conS st i jj j.2.1) u_504.2 ++ (HC aI aJ g u_521.1 u_521.2 ++ ([(fa, .inl (aI, 12, .inl F))]))) := hD
    have et_521 := (jo_ok (ix_of (by omega) (by rw [u.nl]; exact hj1) rfl) (ix_of (by omega) (by rw [u.nr]; exact hi1) rfl) (by rw [u.has]; exact hE) q_521).1
    have er_521 := (jo_ok (ix_of (by omega) (by rw [u.nl]; exact hj1) rfl) (ix_of (by omega) (by rw [u.nr]; exact hi1) rfl) (by rw [u.has]; exact hE) q_521).2
    rw [et_521] at hP hD
    have hP : va_P D vwCl (HC aI aJ h (conS st i jj j.2.1) u_504.2 ++ (HC aI aJ g (conS tt jj i jt.2.1) u_521.2 ++ ([(fa, .inl (aI, 12, .inl F))]))) H := hP
    have hD : va_D A (HC aI aJ h (conS st i jj j.2.1) u_504.2 ++ (HC aI aJ g (conS tt jj i jt.2.1) u_521.2 ++ ([(fa, .inl (aI, 12, .inl F))]))) := hD
    have er_521 := er_521.trans (u.more hi1 hj1 hE j.2.1 _)
    refine j_topi (y := nI (b2n (more st i jj j.2.1))) er_521 ?_
    refine lv_icmp_ne (tgt := 565) hx hb dL_law_524 (by decide) (fun c_524 => ?_) (fun c_524 => ?_)
    · exact absurd rfl c_524
    · clear c_524
      refine lv_aload_n hx hb dL_law_527 rfl (lv_at hl 2 rfl) ?_
      refine j_calli (va_runV (As := []) (rest := []) C.fix (k_size l D aI aJ aZ h (conS st i jj j.2.1) u_504.2 u2.hs H.size) (cwV 0 hts gL_law_X6_size rfl rfl rfl (by decide +kernel) ⟨Nat.le_trans (m := 24) (Nat.le_of_ble_eq_true rfl) hRf, Nat.le_trans (m := 700) (Nat.le_of_ble_eq_true rfl) hRl⟩) (jPreV hN hK hP hD [0, 1, 2, 3, 4, 5, 6, 7, 8, 9, 10, 11, 12, 13, 14, 15, 16, 17, 18, 19, 20] rfl rfl (by decide) (ci := 6) (q0 := 0) rfl rfl) rfl rfl hl.1 rfl (lv_room (Nat.le_of_ble_eq_true rfl)) dL_law_528 ⟨by omega, by omega⟩) hA hP hD hS [0, 1, 2, 3, 4, 5, 6, 7, 8, 9, 10, 11, 12, 13, 14, 15, 16, 17, 18, 19, 20] [21, 22, 23, 24, 25, 26, 27, 28, 29, 30, 31, 32, 33, 34, 35, 36, 37, 38, 39, 40, 41, 42] (wr := HC aI aJ g (conS tt jj i jt.2.1) u_521.2 ++ ([(fa, .inl (aI, 12, .inl F))])) rfl rfl (by decide) (by decide) (fun r_528 u_528 H locs q_528 hP hD hS => ?_)
      have hP := hP.sub (ws' := HC aI aJ h (conS st i jj j.2.1) u_528 ++ (HC aI aJ g (conS tt jj i jt.2.1) u_521.2 ++ ([(fa, .inl (aI, 12, .inl F))]))) [22, 23, 24, 25, 26, 27, 28, 29, 30, 31, 32, 33, 34, 35, 36, 37, 38, 39, 40, 41, 42, 0, 1, 2, 3, 4, 5, 6, 7, 8, 9, 10, 11, 12, 13, 14, 15, 16, 17, 18, 19, 20, 21] rfl
      have hD := hD.sub (ws' := HC aI aJ h (conS st i jj j.2.1) u_528 ++ (HC aI aJ g (conS tt jj i jt.2.1) u_521.2 ++ ([(fa, .inl (aI, 12, .inl F))]))) [22, 23, 24, 25, 26, 27, 28, 29, 30, 31, 32, 33, 34, 35, 36, 37, 38, 39, 40, 41, 42, 0, 1, 2, 3, 4, 5, 6, 7, 8, 9, 10, 11, 12, 13, 14, 15, 16, 17, 18, 19, 20, 21] (by decide) rfl
      have hP : va_P D vwCl (HC aI aJ h (conS st i jj j.2.1) u_528 ++ (HC aI aJ g (conS tt jj i jt.2.1) u_521.2 ++ ([(fa, .inl (aI, 12, .inl F))]))) H := hP
      have hD : va_D A (HC aI aJ h (conS st i jj j.2.1) u_528 ++ (HC aI aJ g (conS tt jj i jt.2.1) u_521.2 ++ ([(fa, .inl (aI, 12, .inl F))]))) := hD
      refine j_topi (y := nI (sN (conS st i jj j.2.1))) (q_528) ?_
      refine lv_iload hx hb dL_law_531 (lv_at hl 12 rfl) ?_
      refine lv_iload hx hb dL_law_533 (lv_at hl 0 rfl) ?_
      refine lv_iadd hx hb dL_law_535 ?_
      refine j_topi (y := nI (sN (conS st i jj j.2.1))) ((nI_add _ _).trans (congrArg nI (con_n i jj j.2.1).symm)) ?_
      refine lv_icmp_ne (tgt := 565) hx hb dL_law_536 (by decide) (fun c_536 => ?_) (fun c_536 => ?_)
      · exact absurd rfl c_536
      · clear c_536
        refine lv_aload_n hx hb dL_law_539 rfl (lv_at hl 2 rfl) ?_
        refine lv_aload_n hx hb dL_law_540 rfl (lv_at hl 4 rfl) ?_
        refine j_calliM (va_runS (As := [.ref (h 0), .ref fa]) (rest := []) C.fix (c_L_freed l hl0 D aI aJ aZ h fa (conS st i jj j.2.1) u_528 F u2.hs hfz H.size) (va_cwS 2 hts gL_law_L_freed rfl rfl rfl (by decide +kernel) ⟨Nat.le_trans (m := 24) (Nat.le_of_ble_eq_true rfl) hRf, Nat.le_trans (m := 700) (Nat.le_of_ble_eq_true rfl) hRl⟩) (jxPreS hXs hA hS hN hK hP hD [0, 1, 2, 3, 4, 5, 6, 7, 8, 9, 10, 11, 12, 13, 14, 15, 16, 17, 18, 19, 20, 42] rfl rfl (by decide)) rfl rfl hl.1 rfl (lv_room (Nat.le_of_ble_eq_true rfl)) dL_law_541 ⟨by omega, by omega⟩) hA hP hD hS [0, 1, 2, 3, 4, 5, 6, 7, 8, 9, 10, 11, 12, 13, 14, 15, 16, 17, 18, 19, 20, 42] [21, 22, 23, 24, 25, 26, 27, 28, 29, 30, 31, 32, 33, 34, 35, 36, 37, 38, 39, 40, 41] (wr := HC aI aJ g (conS tt jj i jt.2.1) u_521.2) rfl rfl (by decide) (by decide) (fun r_541 u_541 H locs q_541 hP hD hS => ?_)
        have hP := hP.sub (ws' := HC aI aJ h (conS st i jj j.2.1) u_541 ++ (HC aI aJ g (conS tt jj i jt.2.1) u_521.2 ++ ([(fa, .inl (aI, 12, .inl F))]))) [21, 22, 23, 24, 25, 26, 27, 28, 29, 30, 31, 32, 33, 34, 35, 36, 37, 38, 39, 40, 41, 0, 1, 2, 3, 4, 5, 6, 7, 8, 9, 10, 11, 12, 13, 14, 15, 16, 17, 18, 19, 20, 42] rfl
        have hD := hD.sub (ws' := HC aI aJ h (conS st i jj j.2.1) u_541 ++ (HC aI aJ g (conS tt jj i jt.2.1) u_521.2 ++ ([(fa, .inl (aI, 12, .inl F))]))) [21, 22, 23, 24, 25, 26, 27, 28, 29, 30, 31, 32, 33, 34, 35, 36, 37, 38, 39, 40, 41, 0, 1, 2, 3, 4, 5, 6, 7, 8, 9, 10, 11, 12, 13, 14, 15, 16, 17, 18, 19, 20, 42] (by decide) rfl
        have hP : va_P D vwCl (HC aI aJ h (conS st i jj j.2.1) u_541 ++ (HC aI aJ g (conS tt jj i jt.2.1) u_521.2 ++ ([(fa, .inl (aI, 12, .inl F))]))) H := hP
        have hD : va_D A (HC aI aJ h (conS st i jj j.2.1) u_541 ++ (HC aI aJ g (conS tt jj i jt.2.1) u_521.2 ++ ([(fa, .inl (aI, 12, .inl F))]))) := hD
        refine j_topi (y := nI 0) (q_541) ?_
        refine lv_if_ne (tgt := 565) hx hb dL_law_544 (by decide) (fun c_544 => ?_) (fun c_544 => ?_)
        · exact absurd c_544 (by decide)
        · clear c_544
          refine lv_iload hx hb dL_law_547 (lv_at hl 0 rfl) ?_
          refine lv_iconst (v := nI 1) hx hb dL_law_549 (by decide) ?_
          refine lv_icmp_eq (tgt := 561) hx hb dL_law_550 (by decide) (fun c_550 => ?_) (fun c_550 => ?_)
          · clear c_550
            refine lv_iconst (v := nI 1) hx hb dL_law_561 (by decide) ?_
            refine lv_goto (tgt := 566) hx hb dL_law_562 (by decide) ?_
            refine lv_istore (lv' := [(6, .int (nI 1)), (17, .int (nI (b2n (more st i jj j.2.1)))), (0, .ref b), (1, .ref (h 0)), (2, .ref (g 0)), (3, .ref fa), (4, .int (nI th)), (5, .int (nI wd)), (7, .int (nI k)), (8, .int (nI x)), (9, .int (nI (x / 16))), (10, .int (nI (x % 16))), (11, .int (nI (sN st))), (12, .int (nI i)), (13, .int (nI jj)), (14, .int (nI (b2n (sE st i jj)))), (15, .int (nI (b2n (decide (sL st i = some jj))))), (16, .int (nI (b2n (sE st i jj && iAl (sE st) (sL st) (sR st) (sNl st) (sNr st) i jj))))]) hx hb dL_law_566 hl (by decide) rfl (fun ls hl => ?_)
            have hl := lv_sub (l' := [(0, .ref b), (1, .ref (h 0)), (2, .ref (g 0)), (3, .ref fa), (4, .int (nI th)), (5, .int (nI wd)), (6, .int (nI 1)), (7, .int (nI k)), (8, .int (nI x)), (9, .int (nI (x / 16)))]) hl [2, 3, 4, 5, 6, 7, 0, 8, 9, 10] rfl
            exact kk (conS st i jj j.2.1) (conS tt jj i jt.2.1) u_541 u_521.2 F H _ ls _ _ (u.con hi1 hj1 hE _ _) (fun z hz1 => hz z hz1) hP hD hS hl (by omega) (by omega)
          · have hM := b2n_n1 c_550
            refine lv_aload_n hx hb dL_law_553 rfl (lv_at hl 2 rfl) ?_
            refine lv_aload_n hx hb dL_law_554 rfl (lv_at hl 4 rfl) ?_
            refine j_calliM (va_runS (As := [.ref (h 0), .ref fa]) (rest := []) C.fix (c_L_changed l hl0 D aI aJ aZ h fa (conS st i jj j.2.1) u_541 F (u2.hs) H.size) (va_cwS 2 hts gL_law_L_changed rfl rfl rfl (by decide +kernel) ⟨Nat.le_trans (m := 24) (Nat.le_of_ble_eq_true rfl) hRf, Nat.le_trans (m := 700) (Nat.le_of_ble_eq_true rfl) hRl⟩) (jxPreS hXs hA hS hN hK hP hD [0, 1, 2, 3, 4, 5, 6, 7, 8, 9, 10, 11, 12, 13, 14, 15, 16, 17, 18, 19, 20, 42] rfl rfl (by decide)) rfl rfl hl.1 rfl (lv_room (Nat.le_of_ble_eq_true rfl)) dL_law_555 ⟨by omega, by omega⟩) hA hP hD hS [0, 1, 2, 3, 4, 5, 6, 7, 8, 9, 10, 11, 12, 13, 14, 15, 16, 17, 18, 19, 20, 42] [21, 22, 23, 24, 25, 26, 27, 28, 29, 30, 31, 32, 33, 34, 35, 36, 37, 38, 39, 40, 41] (wr := HC aI aJ g (conS tt jj i jt.2.1) u_521.2) rfl rfl (by decide) (by decide) (fun r_555 u_555 H locs q_555 hP hD hS => ?_)
            have hP := hP.sub (ws' := HC aI aJ h (conS st i jj j.2.1) u_555 ++ (HC aI aJ g (conS tt jj i jt.2.1) u_521.2 ++ ([(fa, .inl (aI, 12, .inl (nf F (sL (conS st i jj j.2.1)) (sNl (conS st i jj j.2.1)))))]))) [21, 22, 23, 24, 25, 26, 27, 28, 29, 30, 31, 32, 33, 34, 35, 36, 37, 38, 39, 40, 41, 0, 1, 2, 3, 4, 5, 6, 7, 8, 9, 10, 11, 12, 13, 14, 15, 16, 17, 18, 19, 20, 42] rfl
            have hD := hD.sub (ws' := HC aI aJ h (conS st i jj j.2.1) u_555 ++ (HC aI aJ g (conS tt jj i jt.2.1) u_521.2 ++ ([(fa, .inl (aI, 12, .inl (nf F (sL (conS st i jj j.2.1)) (sNl (conS st i jj j.2.1)))))]))) [21, 22, 23, 24, 25, 26, 27, 28, 29, 30, 31, 32, 33, 34, 35, 36, 37, 38, 39, 40, 41, 0, 1, 2, 3, 4, 5, 6, 7, 8, 9, 10, 11, 12, 13, 14, 15, 16, 17, 18, 19, 20, 42] (by decide) rfl
            have hP : va_P D vwCl (HC aI aJ h (conS st i jj j.2.1) u_555 ++ (HC aI aJ g (conS tt jj i jt.2.1) u_521.2 ++ ([(fa, .inl (aI, 12, .inl (nf F (sL (conS st i jj j.2.1)) (sNl (conS st i jj j.2.1)))))]))) H := hP
            have hD : va_D A (HC aI aJ h (conS st i jj j.2.1) u_555 ++ (HC aI aJ g (conS tt jj i jt.2.1) u_521.2 ++ ([(fa, .inl (aI, 12, .inl (nf F (sL (conS st i jj j.2.1)) (sNl (conS st i jj j.2.1)))))]))) := hD
            refine j_topi (y := nI 0) (q_555.trans (congrArg nI (chg_0 (fun z hz1 => by rw [con_same hM]; exact hn9 z hz1)))) ?_
            refine lv_if_ne (tgt := 565) hx hb dL_law_558 (by decide) (fun c_558 => ?_) (fun c_558 => ?_)
            · exact absurd c_558 (by decide)
            · clear c_558
              refine lv_iconst (v := nI 1) hx hb dL_law_561 (by decide) ?_
              refine lv_goto (tgt := 566) hx hb dL_law_562 (by decide) ?_
              refine lv_istore (lv' := [(6, .int (nI 1)), (17, .int (nI (b2n (more st i jj j.2.1)))), (0, .ref b), (1, .ref (h 0)), (2, .ref (g 0)), (3, .ref fa), (4, .int (nI th)), (5, .int (nI wd)), (7, .int (nI k)), (8, .int (nI x)), (9, .int (nI (x / 16))), (10, .int (nI (x % 16))), (11, .int (nI (sN st))), (12, .int (nI i)), (13, .int (nI jj)), (14, .int (nI (b2n (sE st i jj)))), (15, .int (nI (b2n (decide (sL st i = some jj))))), (16, .int (nI (b2n (sE st i jj && iAl (sE st) (sL st) (sR st) (sNl st) (sNr st) i jj))))]) hx hb dL_law_566 hl (by decide) rfl (fun ls hl => ?_)
              have hl := lv_sub (l' := [(0, .ref b), (1, .ref (h 0)), (2, .ref (g 0)), (3, .ref fa), (4, .int (nI th)), (5, .int (nI wd)), (6, .int (nI 1)), (7, .int (nI k)), (8, .int (nI x)), (9, .int (nI (x / 16)))]) hl [2, 3, 4, 5, 6, 7, 0, 8, 9, 10] rfl
              exact kk (conS st i jj j.2.1) (conS tt jj i jt.2.1) u_555 u_521.2 (nf F (sL (conS st i jj j.2.1)) (sNl (conS st i jj j.2.1))) H _ ls _ _ (u.con hi1 hj1 hE _ _) (fun z hz1 => by
                  rw [nf_out (show sNl (conS st i jj j.2.1) ≤ z from hz1)]
                  exact hz z hz1) hP hD hS hl (by omega) (by omega)
set_option maxHeartbeats 4000000 in
set_option maxRecDepth 100000 in
theorem la_Z  (l : Launch) (hl0 : l.stackTraces = false) (hRf : 24 ≤ R.frames) (hRl : 700 ≤ R.locals) (C : jC p s m meth c cL_law 18 (some .boolean) RL wsL_law D (jT aI aJ aZ) args A nm) (hXs : jXs A s s.heap) (u : TU st tt) (hx2 : x < 2 ^ 31) (hP : va_P D vwCl (HC aI aJ h st j ++ (HC aI aJ g tt jt ++ ([(fa, .inl (aI, 12, .inl F))]))) H) (hD : va_D A (HC aI aJ h st j ++ (HC aI aJ g tt jt ++ ([(fa, .inl (aI, 12, .inl F))])))) (hS : va_S A s.heap H locs) (hl : lv_has ls 18 [(0, .ref b), (1, .ref (h 0)), (2, .ref (g 0)), (3, .ref fa), (4, .int (nI th)), (5, .int (nI wd)), (6, .int (nI 1)), (7, .int (nI k)), (8, .int (nI x)), (9, .int (nI (x / 16)))]) (hRc : cells + 507 ≤ R.cells) (hRs : slots + 3042 ≤ R.slots) (kk : ∀ (j jt : Jk) (H : Heap) (locs : List Loc) (ls : Array Slot) (c1 s1 : Nat), va_P D vwCl (HC aI aJ h st j ++ (HC aI aJ g tt jt ++ ([(fa, .inl (aI, 12, .inl F))]))) H → va_D A (HC aI aJ h st j ++ (HC aI aJ g tt jt ++ ([(fa, .inl (aI, 12, .inl F))]))) → va_S A s.heap H locs → lv_has ls 18 [(0, .ref b), (1, .ref (h 0)), (2, .ref (g 0)), (3, .ref fa), (4, .int (nI th)), (5, .int (nI wd)), (6, .int (nI 1)), (7, .int (nI (k + 1)))] → c1 ≤ cells + 507 → s1 ≤ slots + 3042 → W p l e R s m args below meth c H locs c1 s1 Q (F0 m 55 ls [])) : W p l e R s m args below meth c H locs cells slots Q (F0 m 568 ls []) := by
  obtain ⟨hx, hb, hml, hown, hts, hK, hA, hlocks, hr, hn, hN⟩ := id C
  have hi := u.hs
  have hj := u.ht
  have hnl := u.hnl
  have hnr := u.hnr
  have hmL := u.hs.b12
  have htl : sNl tt ≤ 12 := u.ht.1
  have htr : sNr tt ≤ 12 := u.ht.2.1
  refine lv_iload hx hb dL_law_568 (lv_at hl 6 rfl) ?_
  refine lv_if_eq (tgt := 616) hx hb dL_law_570 (by decide) (fun c_570 => ?_) (fun c_570 => ?_)
  · exact absurd c_570 (by decide)
  · clear c_570
    refine lv_aload_n hx hb dL_law_573 rfl (lv_at hl 1 rfl) ?_
    refine lv_iload hx hb dL_law_574 (lv_at hl 9 rfl) ?_
    refine lv_sipush (v := nI 499) hx hb dL_law_576 (by decide) ?_
    refine lv_irem hx hb dL_law_579 (by decide) ?_
    refine j_topi (y := nI ((x / 16) % 499)) (pk_rem (by omega) (by omega) (by omega)) ?_
    refine j_calliM (va_runS (As := [.ref (h 0), .int (nI ((x / 16) % 499))]) (rest := []) C.fix (c_L_refuses l hl0 D aI aJ aZ h st j ((x / 16) % 499) hi (by omega) H.size) (va_cwS 2 hts gL_law_L_refuses rfl rfl rfl (by decide +kernel) ⟨Nat.le_trans (m := 24) (Nat.le_of_ble_eq_true rfl) hRf, Nat.le_trans (m := 700) (Nat.le_of_ble_eq_true rfl) hRl⟩) (jxPreS hXs hA hS hN hK hP hD [0, 1, 2, 3, 4, 5, 6, 7, 8, 9, 10, 11, 12, 13, 14, 15, 16, 17, 18, 19, 20] rfl rfl (by decide)) rfl rfl hl.1 rfl (lv_room (Nat.le_of_ble_eq_true rfl)) dL_law_580 ⟨by omega, by omega⟩) hA hP hD hS [0, 1, 2, 3, 4, 5, 6, 7, 8, 9, 10, 11, 12, 13, 14, 15, 16, 17, 18, 19, 20] [21, 22, 23, 24, 25, 26, 27, 28, 29, 30, 31, 32, 33, 34, 35, 36, 37, 38, 39, 40, 41, 42] (wr := HC aI aJ g tt jt ++ ([(fa, .inl (aI, 12, .inl F))])) rfl rfl (by decide) (by decide) (fun r_580 u_580 H locs q_580 hP hD hS => ?_)
    have hP := hP.sub (ws' := HC aI aJ h st u_580 ++ (HC aI aJ g tt jt ++ ([(fa, .inl (aI, 12, .inl F))]))) [22, 23, 24, 25, 26, 27, 28, 29, 30, 31, 32, 33, 34, 35, 36, 37, 38, 39, 40, 41, 42, 0, 1, 2, 3, 4, 5, 6, 7, 8, 9, 10, 11, 12, 13, 14, 15, 16, 17, 18, 19, 20, 21] rfl
    have hD := hD.sub (ws' := HC aI aJ h st u_580 ++ (HC aI aJ g tt jt ++ ([(fa, .inl (aI, 12, .inl F))]))) [22, 23, 24, 25, 26, 27, 28, 29, 30, 31, 32, 33, 34, 35, 36, 37, 38, 39, 40, 41, 42, 0, 1, 2, 3, 4, 5, 6, 7, 8, 9, 10, 11, 12, 13, 14, 15, 16, 17, 18, 19, 20, 21] (by decide) rfl
    have hP : va_P D vwCl (HC aI aJ h st u_580 ++ (HC aI aJ g tt jt ++ ([(fa, .inl (aI, 12, .inl F))]))) H := hP
    have hD : va_D A (HC aI aJ h st u_580 ++ (HC aI aJ g tt jt ++ ([(fa, .inl (aI, 12, .inl F))]))) := hD
    refine j_topi (y := nI 1) (q_580) ?_
    refine lv_if_eq (tgt := 616) hx hb dL_law_583 (by decide) (fun c_583 => ?_) (fun c_583 => ?_)
    · exact absurd c_583 (by decide)
    · clear c_583
      refine lv_aload_n hx hb dL_law_586 rfl (lv_at hl 2 rfl) ?_
      refine lv_iload hx hb dL_law_587 (lv_at hl 9 rfl) ?_
      refine lv_sipush (v := nI 997) hx hb dL_law_589 (by decide) ?_
      refine lv_irem hx hb dL_law_592 (by decide) ?_
      refine j_topi (y := nI ((x / 16) % 997)) (pk_rem (by omega) (by omega) (by omega)) ?_
      refine j_calliM (va_runS (As := [.ref (g 0), .int (nI ((x / 16) % 997))]) (rest := []) C.fix (c_L_refuses l hl0 D aI aJ aZ g tt jt ((x / 16) % 997) hj (by omega) H.size) (va_cwS 2 hts gL_law_L_refuses rfl rfl rfl (by decide +kernel) ⟨Nat.le_trans (m := 24) (Nat.le_of_ble_eq_true rfl) hRf, Nat.le_trans (m := 700) (Nat.le_of_ble_eq_true rfl) hRl⟩) (jxPreS hXs hA hS hN hK hP hD [21, 22, 23, 24, 25, 26, 27, 28, 29, 30, 31, 32, 33, 34, 35, 36, 37, 38, 39, 40, 41] rfl rfl (by decide)) rfl rfl hl.1 rfl (lv_room (Nat.le_of_ble_eq_true rfl)) dL_law_593 ⟨by omega, by omega⟩) hA hP hD hS [21, 22, 23, 24, 25, 26, 27, 28, 29, 30, 31, 32, 33, 34, 35, 36, 37, 38, 39, 40, 41] [0, 1, 2, 3, 4, 5, 6, 7, 8, 9, 10, 11, 12, 13, 14, 15, 16, 17, 18, 19, 20, 42] (wr := HC aI aJ h st u_580 ++ ([(fa, .inl (aI, 12, .inl F))])) rfl rfl (by decide) (by decide) (fun r_593 u_593 H locs q_593 hP hD hS => ?_)
      have hP := hP.sub (ws' := HC aI aJ h st u_580 ++ (HC aI aJ g tt u_593 ++ ([(fa, .inl (aI, 12, .inl F))]))) [0, 1, 2, 3, 4, 5, 6, 7, 8, 9, 10, 11, 12, 13, 14, 15, 16, 17, 18, 19, 20, 22, 23, 24, 25, 26, 27, 28, 29, 30, 31, 32, 33, 34, 35, 36, 37, 38, 39, 40, 41, 42, 21] rfl
      have hD := hD.sub (ws' := HC aI aJ h st u_580 ++ (HC aI aJ g tt u_593 ++ ([(fa, .inl (aI, 12, .inl F))]))) [0, 1, 2, 3, 4, 5, 6, 7, 8, 9, 10, 11, 12, 13, 14, 15, 16, 17, 18, 19, 20, 22, 23, 24, 25, 26, 27, 28, 29, 30, 31, 32, 33, 34, 35, 36, 37, 38, 39, 40, 41, 42, 21] (by decide) rfl
      have hP : va_P D vwCl (HC aI aJ h st u_580 ++ (HC aI aJ g tt u_593 ++ ([(fa, .inl (aI, 12, .inl F))]))) H := hP
      have hD : va_D A (HC aI aJ h st u_580 ++ (HC aI aJ g tt u_593 ++ ([(fa, .inl (aI, 12, .inl F))]))) := hD
      refine j_topi (y := nI 1) (q_593) ?_
      refine lv_if_eq (tgt := 616) hx hb dL_law_596 (by decide) (fun c_596 => ?_) (fun c_596 => ?_)
      · exact absurd c_596 (by decide)
      · clear c_596
        refine lv_aload_n hx hb dL_law_599 rfl (lv_at hl 1 rfl) ?_
        refine lv_aload_n hx hb dL_law_600 rfl (lv_at hl 2 rfl) ?_
        refine lv_iload hx hb dL_law_601 (lv_at hl 8 rfl) ?_
        refine lv_bipush (v := nI 9) hx hb dL_law_603 (by decide) ?_
        refine lv_idiv hx hb dL_law_605 (by decide) ?_
        refine j_topi (y := nI (x / 9)) (pk_div (by omega) (by omega) (by omega)) ?_
        refine j_calliM (va_runS (As := [.ref (h 0), .ref (g 0), .int (nI (x / 9))]) (rest := []) C.fix (c_L_alike l hl0 D aI aJ aZ h g st tt u_580 u_593 (x / 9) u (by omega) H.size) (va_cwS 3 hts gL_law_L_alike rfl rfl rfl (by decide +kernel) ⟨Nat.le_trans (m := 24) (Nat.le_of_ble_eq_true rfl) hRf, Nat.le_trans (m := 700) (Nat.le_of_ble_eq_true rfl) hRl⟩) (jxPreS hXs hA hS hN hK hP hD [0, 1, 2, 3, 4, 5, 6, 7, 8, 9, 10, 11, 12, 13, 14, 15, 16, 17, 18, 19, 20, 21, 22, 23, 24, 25, 26, 27, 28, 29, 30, 31, 32, 33, 34, 35, 36, 37, 38, 39, 40, 41] rfl rfl (by decide)) rfl rfl hl.1 rfl (lv_room (Nat.le_of_ble_eq_true rfl)) dL_law_606 ⟨by omega, by omega⟩) hA hP hD hS [0, 1, 2, 3, 4, 5, 6, 7, 8, 9, 10, 11, 12, 13, 14, 15, 16, 17, 18, 19, 20, 21, 22, 23, 24, 25, 26, 27, 28, 29, 30, 31, 32, 33, 34, 35, 36, 37, 38, 39, 40, 41] [42] (wr := [(fa, .inl (aI, 12, .inl F))]) rfl rfl (by decide) (by decide) (fun r_606 u_606 H locs q_606 hP hD hS => ?_)
        have hP := hP.sub (ws' := HC aI aJ h st u_606.1 ++ (HC aI aJ g tt u_606.2 ++ ([(fa, .inl (aI, 12, .inl F))]))) [1, 2, 3, 4, 5, 6, 7, 8, 9, 10, 11, 12, 13, 14, 15, 16, 17, 18, 19, 20, 21, 22, 23, 24, 25, 26, 27, 28, 29, 30, 31, 32, 33, 34, 35, 36, 37, 38, 39, 40, 41, 42, 0] rfl
        have hD := hD.sub (ws' := HC aI aJ h st u_606.1 ++ (HC aI aJ g tt u_606.2 ++ ([(fa, .inl (aI, 12, .inl F))]))) [1, 2, 3, 4, 5, 6, 7, 8, 9, 10, 11, 12, 13, 14, 15, 16, 17, 18, 19, 20, 21, 22, 23, 24, 25, 26, 27, 28, 29, 30, 31, 32, 33, 34, 35, 36, 37, 38, 39, 40, 41, 42, 0] (by decide) rfl
        have hP : va_P D vwCl (HC aI aJ h st u_606.1 ++ (HC aI aJ g tt u_606.2 ++ ([(fa, .inl (aI, 12, .inl F))]))) H := hP
        have hD : va_D A (HC aI aJ h st u_606.1 ++ (HC aI aJ g tt u_606.2 ++ ([(fa, .inl (aI, 12, .inl F))]))) := hD
        refine j_topi (y := nI 1) (q_606) ?_
        refine lv_if_eq (tgt := 616) hx hb dL_law_609 (by decide) (fun c_609 => ?_) (fun c_609 => ?_)
        · exact absurd c_609 (by decide)
        · clear c_609
          refine lv_iconst (v := nI 1) hx hb dL_law_612 (by decide) ?_
          refine lv_goto (tgt := 617) hx hb dL_law_613 (by decide) ?_
          refine lv_istore (lv' := [(6, .int (nI 1)), (0, .ref b), (1, .ref (h 0)), (2, .ref (g 0)), (3, .ref fa), (4, .int (nI th)), (5, .int (nI wd)), (7, .int (nI k)), (8, .int (nI x)), (9, .int (nI (x / 16)))]) hx hb dL_law_617 hl (by decide) rfl (fun ls hl => ?_)
          refine lv_iinc (v := nI (k + 1)) (lv' := [(7, .int (nI (k + 1))), (6, .int (nI 1)), (0, .ref b), (1, .ref (h 0)), (2, .ref (g 0)), (3, .ref fa), (4, .int (nI th)), (5, .int (nI wd)), (8, .int (nI x)), (9, .int (nI (x / 16)))]) hx hb dL_law_619 hl (k := 7) rfl (inc_nI _ _) (by decide) rfl (fun ls hl => ?_)
          refine lv_goto (tgt := 55) hx hb dL_law_622 (by decide) ?_
          have hl := lv_sub (l' := [(0, .ref b), (1, .ref (h 0)), (2, .ref (g 0)), (3, .ref fa), (4, .int (nI th)), (5, .int (nI wd)), (6, .int (nI 1)), (7, .int (nI (k + 1)))]) hl [2, 3, 4, 5, 6, 7, 1, 0] rfl
          exact kk u_606.1 u_606.2 H _ ls _ _  hP hD hS hl (by omega) (by omega)
end LWS
