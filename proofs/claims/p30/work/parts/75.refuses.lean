/-! calls that throw change nothing -/
theorem m1_neg {a : Nat} (h : a < 1000) : (-1 : Int32) - nI a < 0 := by
  rw [show (-1 : Int32) - nI a = nI 0 - nI (a + 1) from ?_]
  · exact pk_sneg (by omega) (by omega)
  · rw [← nI_add]
    show (-1 : Int32) - nI a = 0 - (nI a + 1)
    apply Int32.toBitVec_inj.mp
    simp only [Int32.toBitVec_sub, Int32.toBitVec_add]
    show (-1#32) - _ = 0#32 - (_ + 1#32)
    generalize (nI a).toBitVec = z
    bv_omega
theorem m1_neg2 {x : Nat} (h : x < 10000) : (-1 : Int32) - nI x < 0 := by
  rw [show (-1 : Int32) - nI x = nI 0 - nI (x + 1) from ?_]
  · exact pk_sneg (by omega) (by omega)
  · rw [← nI_add]
    show (-1 : Int32) - nI x = 0 - (nI x + 1)
    apply Int32.toBitVec_inj.mp
    simp only [Int32.toBitVec_sub, Int32.toBitVec_add]
    show (-1#32) - _ = 0#32 - (_ + 1#32)
    generalize (nI x).toBitVec = z
    bv_omega
section RFS
variable {p : Program} {e : Env} {R : Room} {s : State} {m : MethodId} {args : Array Value} {below : List Frame} {meth : Method} {c : Code} {Q : State → Prop} {D : va_G} {aI aJ aZ : ClassId} {A : Nat → Prop} {nm : String} {H : Heap} {locs : List Loc} {cells slots : Nat} {ls : Array Slot} {h : Nat → Nat} {st : St} {j : Jk} {v w : Int32} {x : Nat}
set_option maxHeartbeats 4000000 in
set_option maxRecDepth 100000 in
theorem rf_A  (l : Launch) (hl0 : l.stackTraces = false) (hRf : 22 ≤ R.frames) (hRl : 600 ≤ R.locals) (C : jC p s m meth c cL_refuses 10 (some .boolean) RL wsL_refuses D (jT aI aJ aZ) args A nm) (hXs : jXs A s s.heap) (hi : HI st) (hx2 : x < 2 ^ 31) (hP : va_P D vwCl (HC aI aJ h st j) H) (hD : va_D A (HC aI aJ h st j)) (hS : va_S A s.heap H locs) (hl : lv_has ls 10 [(0, .ref (h 0)), (1, .int (nI x))]) (hRc : cells + 0 ≤ R.cells) (hRs : slots + 0 ≤ R.slots) (kk : ∀ (v w : Int32) (j : Jk) (H : Heap) (locs : List Loc) (ls : Array Slot) (c1 s1 : Nat), (ix (sNl st) v = none) → (ix (sNr st) w = none) → va_P D vwCl (HC aI aJ h st j) H → va_D A (HC aI aJ h st j) → va_S A s.heap H locs → lv_has ls 10 [(0, .ref (h 0)), (1, .int (nI x)), (2, .int (nI (sNl st))), (3, .int (nI (sNr st))), (4, .int v), (5, .int w)] → c1 ≤ cells + 0 → s1 ≤ slots + 0 → W p l e R s m args below meth c H locs c1 s1 Q (F0 m 56 ls [])) : W p l e R s m args below meth c H locs cells slots Q (F0 m 0 ls []) := by
  obtain ⟨hx, hb, hml, hown, hts, hK, hA, hlocks, hr, hn, hN⟩ := id C
  have hnl : sNl st ≤ 12 := hi.1
  have hnr : sNr st ≤ 12 := hi.2.1
  refine lv_aload_n hx hb dL_refuses_0 rfl (lv_at hl 0 rfl) ?_
  refine j_calli (va_runV (As := []) (rest := []) C.fix (k_lefts l D aI aJ aZ h st j hi H.size) (cwV 0 hts gL_refuses_X6_lefts rfl rfl rfl (by decide +kernel) ⟨Nat.le_trans (m := 22) (Nat.le_of_ble_eq_true rfl) hRf, Nat.le_trans (m := 600) (Nat.le_of_ble_eq_true rfl) hRl⟩) (jPreV hN hK hP hD [0, 1, 2, 3, 4, 5, 6, 7, 8, 9, 10, 11, 12, 13, 14, 15, 16, 17, 18, 19, 20] rfl rfl (by decide) (ci := 6) (q0 := 0) rfl rfl) rfl rfl hl.1 rfl (lv_room (Nat.le_of_ble_eq_true rfl)) dL_refuses_1 ⟨by omega, by omega⟩) hA hP hD hS [0, 1, 2, 3, 4, 5, 6, 7, 8, 9, 10, 11, 12, 13, 14, 15, 16, 17, 18, 19, 20] [] (wr := []) rfl rfl (by decide) (by decide) (fun r_1 u_1 H locs q_1 hP hD hS => ?_)
  have hP : va_P D vwCl (HC aI aJ h st u_1) H := hP
  have hD : va_D A (HC aI aJ h st u_1) := hD
  refine j_topi (y := nI (sNl st)) (q_1) ?_
  refine lv_istore_n (lv' := [(2, .int (nI (sNl st))), (0, .ref (h 0)), (1, .int (nI x))]) hx hb dL_refuses_4 rfl hl (by decide) rfl (fun ls hl => ?_)
  refine lv_aload_n hx hb dL_refuses_5 rfl (lv_at hl 1 rfl) ?_
  refine j_calli (va_runV (As := []) (rest := []) C.fix (k_rights l D aI aJ aZ h st u_1 hi H.size) (cwV 0 hts gL_refuses_X6_rights rfl rfl rfl (by decide +kernel) ⟨Nat.le_trans (m := 22) (Nat.le_of_ble_eq_true rfl) hRf, Nat.le_trans (m := 600) (Nat.le_of_ble_eq_true rfl) hRl⟩) (jPreV hN hK hP hD [0, 1, 2, 3, 4, 5, 6, 7, 8, 9, 10, 11, 12, 13, 14, 15, 16, 17, 18, 19, 20] rfl rfl (by decide) (ci := 6) (q0 := 0) rfl rfl) rfl rfl hl.1 rfl (lv_room (Nat.le_of_ble_eq_true rfl)) dL_refuses_6 ⟨by omega, by omega⟩) hA hP hD hS [0, 1, 2, 3, 4, 5, 6, 7, 8, 9, 10, 11, 12, 13, 14, 15, 16, 17, 18, 19, 20] [] (wr := []) rfl rfl (by decide) (by decide) (fun r_6 u_6 H locs q_6 hP hD hS => ?_)
  have hP : va_P D vwCl (HC aI aJ h st u_6) H := hP
  have hD : va_D A (HC aI aJ h st u_6) := hD
  refine j_topi (y := nI (sNr st)) (q_6) ?_
  refine lv_istore_n (lv' := [(3, .int (nI (sNr st))), (2, .int (nI (sNl st))), (0, .ref (h 0)), (1, .int (nI x))]) hx hb dL_refuses_9 rfl hl (by decide) rfl (fun ls hl => ?_)
  refine lv_iload_n hx hb dL_refuses_10 rfl (lv_at hl 3 rfl) ?_
  refine lv_iconst (v := nI 2) hx hb dL_refuses_11 (by decide) ?_
  refine lv_irem hx hb dL_refuses_12 (by decide) ?_
  refine j_topi (y := nI (x % 2)) (pk_rem (hx2) (by omega) (by omega)) ?_
  refine lv_if_ne (tgt := 25) hx hb dL_refuses_13 (by decide) (fun c_13 => ?_) (fun c_13 => ?_)
  · refine lv_iload_n hx hb dL_refuses_25 rfl (lv_at hl 1 rfl) ?_
    refine lv_iload_n hx hb dL_refuses_26 rfl (lv_at hl 3 rfl) ?_
    refine lv_bipush (v := nI 50) hx hb dL_refuses_27 (by decide) ?_
    refine lv_irem hx hb dL_refuses_29 (by decide) ?_
    refine j_topi (y := nI (x % 50)) (pk_rem (hx2) (by omega) (by omega)) ?_
    refine lv_iadd hx hb dL_refuses_30 ?_
    refine j_topi (y := nI ((sNl st) + (x % 50))) (nI_add _ _) ?_
    refine lv_istore (lv' := [(4, .int (nI ((sNl st) + (x % 50)))), (3, .int (nI (sNr st))), (2, .int (nI (sNl st))), (0, .ref (h 0)), (1, .int (nI x))]) hx hb dL_refuses_31 hl (by decide) rfl (fun ls hl => ?_)
    refine lv_iload_n hx hb dL_refuses_33 rfl (lv_at hl 4 rfl) ?_
    refine lv_iconst (v := nI 2) hx hb dL_refuses_34 (by decide) ?_
    refine lv_irem hx hb dL_refuses_35 (by decide) ?_
    refine j_topi (y := nI (x % 2)) (pk_rem (hx2) (by omega) (by omega)) ?_
    refine lv_if_ne (tgt := 48) hx hb dL_refuses_36 (by decide) (fun c_36 => ?_) (fun c_36 => ?_)
    · clear c_36
      refine lv_iconst (v := (-1)) hx hb dL_refuses_48 (by decide) ?_
      refine lv_iload_n hx hb dL_refuses_49 rfl (lv_at hl 4 rfl) ?_
      refine lv_bipush (v := nI 50) hx hb dL_refuses_50 (by decide) ?_
      refine lv_irem hx hb dL_refuses_52 (by decide) ?_
      refine j_topi (y := nI (x % 50)) (pk_rem (hx2) (by omega) (by omega)) ?_
      refine lv_isub hx hb dL_refuses_53 ?_
      refine lv_istore (lv' := [(5, .int ((-1) - (nI (x % 50)))), (4, .int (nI ((sNl st) + (x % 50)))), (3, .int (nI (sNr st))), (2, .int (nI (sNl st))), (0, .ref (h 0)), (1, .int (nI x))]) hx hb dL_refuses_54 hl (by decide) rfl (fun ls hl => ?_)
      have hl := lv_sub (l' := [(0, .ref (h 0)), (1, .int (nI x)), (2, .int (nI (sNl st))), (3, .int (nI (sNr st))), (4, .int (nI ((sNl st) + (x % 50)))), (5, .int ((-1) - (nI (x % 50))))]) hl [4, 5, 3, 2, 1, 0] rfl
      exact kk (nI ((sNl st) + (x % 50))) ((-1) - (nI (x % 50))) u_6 H _ ls _ _ (ix_big (nI_le (Nat.le_add_right _ _) (by omega))) (ix_neg (m1_neg (by omega))) hP hD hS hl (by omega) (by omega)
    · exact absurd c_36 c_13
  · refine lv_iconst (v := (-1)) hx hb dL_refuses_16 (by decide) ?_
    refine lv_iload_n hx hb dL_refuses_17 rfl (lv_at hl 3 rfl) ?_
    refine lv_bipush (v := nI 50) hx hb dL_refuses_18 (by decide) ?_
    refine lv_irem hx hb dL_refuses_20 (by decide) ?_
    refine j_topi (y := nI (x % 50)) (pk_rem (hx2) (by omega) (by omega)) ?_
    refine lv_isub hx hb dL_refuses_21 ?_
    refine lv_goto (tgt := 31) hx hb dL_refuses_22 (by decide) ?_
    refine lv_istore (lv' := [(4, .int ((-1) - (nI (x % 50)))), (3, .int (nI (sNr st))), (2, .int (nI (sNl st))), (0, .ref (h 0)), (1, .int (nI x))]) hx hb dL_refuses_31 hl (by decide) rfl (fun ls hl => ?_)
    refine lv_iload_n hx hb dL_refuses_33 rfl (lv_at hl 4 rfl) ?_
    refine lv_iconst (v := nI 2) hx hb dL_refuses_34 (by decide) ?_
    refine lv_irem hx hb dL_refuses_35 (by decide) ?_
    refine j_topi (y := nI (x % 2)) (pk_rem (hx2) (by omega) (by omega)) ?_
    refine lv_if_ne (tgt := 48) hx hb dL_refuses_36 (by decide) (fun c_36 => ?_) (fun c_36 => ?_)
    · exact absurd c_13 c_36
    · clear c_36
      refine lv_iload_n hx hb dL_refuses_39 rfl (lv_at hl 1 rfl) ?_
      refine lv_iload_n hx hb dL_refuses_40 rfl (lv_at hl 4 rfl) ?_
      refine lv_bipush (v := nI 50) hx hb dL_refuses_41 (by decide) ?_
      refine lv_irem hx hb dL_refuses_43 (by decide) ?_
      refine j_topi (y := nI (x % 50)) (pk_rem (hx2) (by omega) (by omega)) ?_
      refine lv_iadd hx hb dL_refuses_44 ?_
      refine j_topi (y := nI ((sNr st) + (x % 50))) (nI_add _ _) ?_
      refine lv_goto (tgt := 54) hx hb dL_refuses_45 (by decide) ?_
      refine lv_istore (lv' := [(5, .int (nI ((sNr st) + (x % 50)))), (4, .int ((-1) - (nI (x % 50)))), (3, .int (nI (sNr st))), (2, .int (nI (sNl st))), (0, .ref (h 0)), (1, .int (nI x))]) hx hb dL_refuses_54 hl (by decide) rfl (fun ls hl => ?_)
      have hl := lv_sub (l' := [(0, .ref (h 0)), (1, .int (nI x)), (2, .int (nI (sNl st))), (3, .int (nI (sNr st))), (4, .int ((-1) - (nI (x % 50)))), (5, .int (nI ((sNr st) + (x % 50))))]) hl [4, 5, 3, 2, 1, 0] rfl
      exact kk ((-1) - (nI (x % 50))) (nI ((sNr st) + (x % 50))) u_6 H _ ls _ _ (ix_neg (m1_neg (by omega))) (ix_big (nI_le (Nat.le_add_right _ _) (by omega))) hP hD hS hl (by omega) (by omega)
set_option maxHeartbeats 4000000 in
set_option maxRecDepth 100000 in
theorem rf_B  (l : Launch) (hl0 : l.stackTraces = false) (hRf : 22 ≤ R.frames) (hRl : 600 ≤ R.locals) (C : jC p s m meth c cL_refuses 10 (some .boolean) RL wsL_refuses D (jT aI aJ aZ) args A nm) (hXs : jXs A s s.heap) (hi : HI st) (hv : ix (sNl st) v = none) (hw : ix (sNr st) w = none) (hP : va_P D vwCl (HC aI aJ h st j) H) (hD : va_D A (HC aI aJ h st j)) (hS : va_S A s.heap H locs) (hl : lv_has ls 10 [(0, .ref (h 0)), (1, .int (nI x)), (2, .int (nI (sNl st))), (3, .int (nI (sNr st))), (4, .int v), (5, .int w)]) (hRc : cells + 14 ≤ R.cells) (hRs : slots + 84 ≤ R.slots) (kk : ∀ (j : Jk) (H : Heap) (locs : List Loc) (ls : Array Slot) (c1 s1 : Nat), va_P D vwCl (HC aI aJ h st j) H → va_D A (HC aI aJ h st j) → va_S A s.heap H locs → lv_has ls 10 [(0, .ref (h 0)), (1, .int (nI x)), (2, .int (nI (sNl st))), (3, .int (nI (sNr st))), (4, .int v), (5, .int w)] → c1 ≤ cells + 14 → s1 ≤ slots + 84 → W p l e R s m args below meth c H locs c1 s1 Q (F0 m 117 ls [])) : W p l e R s m args below meth c H locs cells slots Q (F0 m 56 ls []) := by
  obtain ⟨hx, hb, hml, hown, hts, hK, hA, hlocks, hr, hn, hN⟩ := id C
  have L_25 := hts (.constant RL 25 (-9999001)) (List.mem_of_getElem? (i := 1) rfl)
  have hnl : sNl st ≤ 12 := hi.1
  have hnr : sNr st ≤ 12 := hi.2.1
  refine lv_aload_n hx hb dL_refuses_56 rfl (lv_at hl 0 rfl) ?_
  refine lv_iload hx hb dL_refuses_57 (lv_at hl 4 rfl) ?_
  refine lv_iconst (v := nI 0) hx hb dL_refuses_59 (by decide) ?_
  refine j_calliM (vx_runSW (As := [.ref (h 0), .int v, .int (nI 0)]) (rest := []) C.fix (c_L_joined l hl0 D aI aJ aZ h st j v (nI 0) hi H.size) (vx_cwSW 3 hts gL_refuses_L_joined rfl rfl rfl (by decide +kernel) ⟨Nat.le_trans (m := 22) (Nat.le_of_ble_eq_true rfl) hRf, Nat.le_trans (m := 600) (Nat.le_of_ble_eq_true rfl) hRl⟩) (jxPreS hXs hA hS hN hK hP hD [0, 1, 2, 3, 4, 5, 6, 7, 8, 9, 10, 11, 12, 13, 14, 15, 16, 17, 18, 19, 20] rfl rfl (by decide)) rfl rfl hl.1 rfl (lv_room (Nat.le_of_ble_eq_true rfl)) dL_refuses_60 ⟨by omega, by omega⟩) hA hP hD hS [0, 1, 2, 3, 4, 5, 6, 7, 8, 9, 10, 11, 12, 13, 14, 15, 16, 17, 18, 19, 20] [] (wr := []) rfl rfl (by decide) (by decide) (fun r_60 u_60 H locs q_60 hP hD hS => ?_)
  have hP : va_P D vwCl (HC aI aJ h u_60.1 u_60.2) H := hP
  have hD : va_D A (HC aI aJ h u_60.1 u_60.2) := hD
  have et_60 := (jo_x hv q_60).1
  have er_60 := (jo_x hv q_60).2
  rw [et_60] at hP hD
  have hP : va_P D vwCl (HC aI aJ h st u_60.2) H := hP
  have hD : va_D A (HC aI aJ h st u_60.2) := hD
  refine j_topi (y := (-9999001)) er_60 ?_
  refine lv_ldc (v := (-9999001)) hx hb hown L_25 dL_refuses_63 ?_
  refine lv_icmp_ne (tgt := 301) hx hb dL_refuses_65 (by decide) (fun c_65 => ?_) (fun c_65 => ?_)
  · exact absurd rfl c_65
  · clear c_65
    refine lv_aload_n hx hb dL_refuses_68 rfl (lv_at hl 0 rfl) ?_
    refine lv_iconst (v := nI 0) hx hb dL_refuses_69 (by decide) ?_
    refine lv_iload hx hb dL_refuses_70 (lv_at hl 5 rfl) ?_
    refine j_calliM (vx_runSW (As := [.ref (h 0), .int (nI 0), .int w]) (rest := []) C.fix (c_L_joined l hl0 D aI aJ aZ h st u_60.2 (nI 0) w hi H.size) (vx_cwSW 3 hts gL_refuses_L_joined rfl rfl rfl (by decide +kernel) ⟨Nat.le_trans (m := 22) (Nat.le_of_ble_eq_true rfl) hRf, Nat.le_trans (m := 600) (Nat.le_of_ble_eq_true rfl) hRl⟩) (jxPreS hXs hA hS hN hK hP hD [0, 1, 2, 3, 4, 5, 6, 7, 8, 9, 10, 11, 12, 13, 14, 15, 16, 17, 18, 19, 20] rfl rfl (by decide)) rfl rfl hl.1 rfl (lv_room (Nat.le_of_ble_eq_true rfl)) dL_refuses_72 ⟨by omega, by omega⟩) hA hP hD hS [0, 1, 2, 3, 4, 5, 6, 7, 8, 9, 10, 11, 12, 13, 14, 15, 16, 17, 18, 19, 20] [] (wr := []) rfl rfl (by decide) (by decide) (fun r_72 u_72 H locs q_72 hP hD hS => ?_)
    have hP : va_P D vwCl (HC aI aJ h u_72.1 u_72.2) H := hP
    have hD : va_D A (HC aI aJ h u_72.1 u_72.2) := hD
    have et_72 := (jo_y hw q_72).1
    have er_72 := (jo_y hw q_72).2
    rw [et_72] at hP hD
    have hP : va_P D vwCl (HC aI aJ h st u_72.2) H := hP
    have hD : va_D A (HC aI aJ h st u_72.2) := hD
    refine j_topi (y := (-9999001)) er_72 ?_
    refine lv_ldc (v := (-9999001)) hx hb hown L_25 dL_refuses_75 ?_
    refine lv_icmp_ne (tgt := 301) hx hb dL_refuses_77 (by decide) (fun c_77 => ?_) (fun c_77 => ?_)
    · exact absurd rfl c_77
    · clear c_77
      refine lv_aload_n hx hb dL_refuses_80 rfl (lv_at hl 0 rfl) ?_
      refine lv_iload hx hb dL_refuses_81 (lv_at hl 4 rfl) ?_
      refine lv_iload hx hb dL_refuses_83 (lv_at hl 5 rfl) ?_
      refine j_calliM (vx_runSW (As := [.ref (h 0), .int v, .int w]) (rest := []) C.fix (c_L_parted l hl0 D aI aJ aZ h st u_72.2 v w hi H.size) (vx_cwSW 3 hts gL_refuses_L_parted rfl rfl rfl (by decide +kernel) ⟨Nat.le_trans (m := 22) (Nat.le_of_ble_eq_true rfl) hRf, Nat.le_trans (m := 600) (Nat.le_of_ble_eq_true rfl) hRl⟩) (jxPreS hXs hA hS hN hK hP hD [0, 1, 2, 3, 4, 5, 6, 7, 8, 9, 10, 11, 12, 13, 14, 15, 16, 17, 18, 19, 20] rfl rfl (by decide)) rfl rfl hl.1 rfl (lv_room (Nat.le_of_ble_eq_true rfl)) dL_refuses_85 ⟨by omega, by omega⟩) hA hP hD hS [0, 1, 2, 3, 4, 5, 6, 7, 8, 9, 10, 11, 12, 13, 14, 15, 16, 17, 18, 19, 20] [] (wr := []) rfl rfl (by decide) (by decide) (fun r_85 u_85 H locs q_85 hP hD hS => ?_)
      have hP : va_P D vwCl (HC aI aJ h u_85.1 u_85.2) H := hP
      have hD : va_D A (HC aI aJ h u_85.1 u_85.2) := hD
      have et_85 := (pa_x hv q_85).1
      have er_85 := (pa_x hv q_85).2
      rw [et_85] at hP hD
      have hP : va_P D vwCl (HC aI aJ h st u_85.2) H := hP
      have hD : va_D A (HC aI aJ h st u_85.2) := hD
      refine j_topi (y := (-9999001)) er_85 ?_
      refine lv_ldc (v := (-9999001)) hx hb hown L_25 dL_refuses_88 ?_
      refine lv_icmp_ne (tgt := 301) hx hb dL_refuses_90 (by decide) (fun c_90 => ?_) (fun c_90 => ?_)
      · exact absurd rfl c_90
      · clear c_90
        refine lv_aload_n hx hb dL_refuses_93 rfl (lv_at hl 0 rfl) ?_
        refine lv_iconst (v := nI 0) hx hb dL_refuses_94 (by decide) ?_
        refine lv_iload hx hb dL_refuses_95 (lv_at hl 5 rfl) ?_
        refine j_calliM (vx_runSW (As := [.ref (h 0), .int (nI 0), .int w]) (rest := []) C.fix (c_L_parted l hl0 D aI aJ aZ h st u_85.2 (nI 0) w hi H.size) (vx_cwSW 3 hts gL_refuses_L_parted rfl rfl rfl (by decide +kernel) ⟨Nat.le_trans (m := 22) (Nat.le_of_ble_eq_true rfl) hRf, Nat.le_trans (m := 600) (Nat.le_of_ble_eq_true rfl) hRl⟩) (jxPreS hXs hA hS hN hK hP hD [0, 1, 2, 3, 4, 5, 6, 7, 8, 9, 10, 11, 12, 13, 14, 15, 16, 17, 18, 19, 20] rfl rfl (by decide)) rfl rfl hl.1 rfl (lv_room (Nat.le_of_ble_eq_true rfl)) dL_refuses_97 ⟨by omega, by omega⟩) hA hP hD hS [0, 1, 2, 3, 4, 5, 6, 7, 8, 9, 10, 11, 12, 13, 14, 15, 16, 17, 18, 19, 20] [] (wr := []) rfl rfl (by decide) (by decide) (fun r_97 u_97 H locs q_97 hP hD hS => ?_)
        have hP : va_P D vwCl (HC aI aJ h u_97.1 u_97.2) H := hP
        have hD : va_D A (HC aI aJ h u_97.1 u_97.2) := hD
        have et_97 := (pa_y hw q_97).1
        have er_97 := (pa_y hw q_97).2
        rw [et_97] at hP hD
        have hP : va_P D vwCl (HC aI aJ h st u_97.2) H := hP
        have hD : va_D A (HC aI aJ h st u_97.2) := hD
        refine j_topi (y := (-9999001)) er_97 ?_
        refine lv_ldc (v := (-9999001)) hx hb hown L_25 dL_refuses_100 ?_
        refine lv_icmp_ne (tgt := 301) hx hb dL_refuses_102 (by decide) (fun c_102 => ?_) (fun c_102 => ?_)
        · exact absurd rfl c_102
        · clear c_102
          refine lv_aload_n hx hb dL_refuses_105 rfl (lv_at hl 0 rfl) ?_
          refine lv_iload hx hb dL_refuses_106 (lv_at hl 4 rfl) ?_
          refine lv_iconst (v := nI 0) hx hb dL_refuses_108 (by decide) ?_
          refine j_calliM (vx_runSW (As := [.ref (h 0), .int v, .int (nI 0)]) (rest := []) C.fix (c_L_has l hl0 D aI aJ aZ h st u_97.2 v (nI 0) hi H.size) (vx_cwSW 3 hts gL_refuses_L_has rfl rfl rfl (by decide +kernel) ⟨Nat.le_trans (m := 22) (Nat.le_of_ble_eq_true rfl) hRf, Nat.le_trans (m := 600) (Nat.le_of_ble_eq_true rfl) hRl⟩) (jxPreS hXs hA hS hN hK hP hD [0, 1, 2, 3, 4, 5, 6, 7, 8, 9, 10, 11, 12, 13, 14, 15, 16, 17, 18, 19, 20] rfl rfl (by decide)) rfl rfl hl.1 rfl (lv_room (Nat.le_of_ble_eq_true rfl)) dL_refuses_109 ⟨by omega, by omega⟩) hA hP hD hS [0, 1, 2, 3, 4, 5, 6, 7, 8, 9, 10, 11, 12, 13, 14, 15, 16, 17, 18, 19, 20] [] (wr := []) rfl rfl (by decide) (by decide) (fun r_109 u_109 H locs q_109 hP hD hS => ?_)
          have hP : va_P D vwCl (HC aI aJ h st u_109) H := hP
          have hD : va_D A (HC aI aJ h st u_109) := hD
          refine j_topi (y := (-9999001)) (ha_x hv q_109) ?_
          refine lv_ldc (v := (-9999001)) hx hb hown L_25 dL_refuses_112 ?_
          refine lv_icmp_ne (tgt := 301) hx hb dL_refuses_114 (by decide) (fun c_114 => ?_) (fun c_114 => ?_)
          · exact absurd rfl c_114
          · clear c_114
            have hl := lv_sub (l' := [(0, .ref (h 0)), (1, .int (nI x)), (2, .int (nI (sNl st))), (3, .int (nI (sNr st))), (4, .int v), (5, .int w)]) hl [0, 1, 2, 3, 4, 5] rfl
            exact kk u_109 H _ ls _ _  hP hD hS hl (by omega) (by omega)
set_option maxHeartbeats 4000000 in
set_option maxRecDepth 100000 in
theorem rf_C  (l : Launch) (hl0 : l.stackTraces = false) (hRf : 22 ≤ R.frames) (hRl : 600 ≤ R.locals) (C : jC p s m meth c cL_refuses 10 (some .boolean) RL wsL_refuses D (jT aI aJ aZ) args A nm) (hXs : jXs A s s.heap) (hi : HI st) (hv : ix (sNl st) v = none) (hw : ix (sNr st) w = none) (hP : va_P D vwCl (HC aI aJ h st j) H) (hD : va_D A (HC aI aJ h st j)) (hS : va_S A s.heap H locs) (hl : lv_has ls 10 [(0, .ref (h 0)), (1, .int (nI x)), (2, .int (nI (sNl st))), (3, .int (nI (sNr st))), (4, .int v), (5, .int w)]) (hRc : cells + 8 ≤ R.cells) (hRs : slots + 48 ≤ R.slots) (kk : ∀ (j : Jk) (H : Heap) (locs : List Loc) (ls : Array Slot) (c1 s1 : Nat), va_P D vwCl (HC aI aJ h st j) H → va_D A (HC aI aJ h st j) → va_S A s.heap H locs → lv_has ls 10 [(0, .ref (h 0)), (1, .int (nI x)), (2, .int (nI (sNl st))), (3, .int (nI (sNr st))), (4, .int v), (5, .int w)] → c1 ≤ cells + 8 → s1 ≤ slots + 48 → W p l e R s m args below meth c H locs c1 s1 Q (F0 m 172 ls [])) : W p l e R s m args below meth c H locs cells slots Q (F0 m 117 ls []) := by
  obtain ⟨hx, hb, hml, hown, hts, hK, hA, hlocks, hr, hn, hN⟩ := id C
  have L_25 := hts (.constant RL 25 (-9999001)) (List.mem_of_getElem? (i := 1) rfl)
  have hnl : sNl st ≤ 12 := hi.1
  have hnr : sNr st ≤ 12 := hi.2.1
  refine lv_aload_n hx hb dL_refuses_117 rfl (lv_at hl 0 rfl) ?_
  refine lv_iload hx hb dL_refuses_118 (lv_at hl 4 rfl) ?_
  refine j_calliM (vx_runSW (As := [.ref (h 0), .int v]) (rest := []) C.fix (c_L_ofLeft l hl0 D aI aJ aZ h st j v hi H.size) (vx_cwSW 2 hts gL_refuses_L_ofLeft rfl rfl rfl (by decide +kernel) ⟨Nat.le_trans (m := 22) (Nat.le_of_ble_eq_true rfl) hRf, Nat.le_trans (m := 600) (Nat.le_of_ble_eq_true rfl) hRl⟩) (jxPreS hXs hA hS hN hK hP hD [0, 1, 2, 3, 4, 5, 6, 7, 8, 9, 10, 11, 12, 13, 14, 15, 16, 17, 18, 19, 20] rfl rfl (by decide)) rfl rfl hl.1 rfl (lv_room (Nat.le_of_ble_eq_true rfl)) dL_refuses_120 ⟨by omega, by omega⟩) hA hP hD hS [0, 1, 2, 3, 4, 5, 6, 7, 8, 9, 10, 11, 12, 13, 14, 15, 16, 17, 18, 19, 20] [] (wr := []) rfl rfl (by decide) (by decide) (fun r_120 u_120 H locs q_120 hP hD hS => ?_)
  have hP : va_P D vwCl (HC aI aJ h st u_120) H := hP
  have hD : va_D A (HC aI aJ h st u_120) := hD
  refine j_topi (y := (-9999001)) (ol_x hv q_120) ?_
  refine lv_ldc (v := (-9999001)) hx hb hown L_25 dL_refuses_123 ?_
  refine lv_icmp_ne (tgt := 301) hx hb dL_refuses_125 (by decide) (fun c_125 => ?_) (fun c_125 => ?_)
  · exact absurd rfl c_125
  · clear c_125
    refine lv_aload_n hx hb dL_refuses_128 rfl (lv_at hl 0 rfl) ?_
    refine lv_iload hx hb dL_refuses_129 (lv_at hl 5 rfl) ?_
    refine j_calliM (vx_runSW (As := [.ref (h 0), .int w]) (rest := []) C.fix (c_L_ofRight l hl0 D aI aJ aZ h st u_120 w hi H.size) (vx_cwSW 2 hts gL_refuses_L_ofRight rfl rfl rfl (by decide +kernel) ⟨Nat.le_trans (m := 22) (Nat.le_of_ble_eq_true rfl) hRf, Nat.le_trans (m := 600) (Nat.le_of_ble_eq_true rfl) hRl⟩) (jxPreS hXs hA hS hN hK hP hD [0, 1, 2, 3, 4, 5, 6, 7, 8, 9, 10, 11, 12, 13, 14, 15, 16, 17, 18, 19, 20] rfl rfl (by decide)) rfl rfl hl.1 rfl (lv_room (Nat.le_of_ble_eq_true rfl)) dL_refuses_131 ⟨by omega, by omega⟩) hA hP hD hS [0, 1, 2, 3, 4, 5, 6, 7, 8, 9, 10, 11, 12, 13, 14, 15, 16, 17, 18, 19, 20] [] (wr := []) rfl rfl (by decide) (by decide) (fun r_131 u_131 H locs q_131 hP hD hS => ?_)
    have hP : va_P D vwCl (HC aI aJ h st u_131) H := hP
    have hD : va_D A (HC aI aJ h st u_131) := hD
    refine j_topi (y := (-9999001)) (or_x hw q_131) ?_
    refine lv_ldc (v := (-9999001)) hx hb hown L_25 dL_refuses_134 ?_
    refine lv_icmp_ne (tgt := 301) hx hb dL_refuses_136 (by decide) (fun c_136 => ?_) (fun c_136 => ?_)
    · exact absurd rfl c_136
    · clear c_136
      refine lv_aload_n hx hb dL_refuses_139 rfl (lv_at hl 0 rfl) ?_
      refine lv_iload hx hb dL_refuses_140 (lv_at hl 4 rfl) ?_
      refine j_calliM (vx_runSW (As := [.ref (h 0), .int v]) (rest := []) C.fix (c_L_leftPart l hl0 D aI aJ aZ h st u_131 v hi H.size) (vx_cwSW 2 hts gL_refuses_L_leftPart rfl rfl rfl (by decide +kernel) ⟨Nat.le_trans (m := 22) (Nat.le_of_ble_eq_true rfl) hRf, Nat.le_trans (m := 600) (Nat.le_of_ble_eq_true rfl) hRl⟩) (jxPreS hXs hA hS hN hK hP hD [0, 1, 2, 3, 4, 5, 6, 7, 8, 9, 10, 11, 12, 13, 14, 15, 16, 17, 18, 19, 20] rfl rfl (by decide)) rfl rfl hl.1 rfl (lv_room (Nat.le_of_ble_eq_true rfl)) dL_refuses_142 ⟨by omega, by omega⟩) hA hP hD hS [0, 1, 2, 3, 4, 5, 6, 7, 8, 9, 10, 11, 12, 13, 14, 15, 16, 17, 18, 19, 20] [] (wr := []) rfl rfl (by decide) (by decide) (fun r_142 u_142 H locs q_142 hP hD hS => ?_)
      have hP : va_P D vwCl (HC aI aJ h st u_142) H := hP
      have hD : va_D A (HC aI aJ h st u_142) := hD
      refine j_topi (y := (-9999001)) (lpp_x hv q_142) ?_
      refine lv_ldc (v := (-9999001)) hx hb hown L_25 dL_refuses_145 ?_
      refine lv_icmp_ne (tgt := 301) hx hb dL_refuses_147 (by decide) (fun c_147 => ?_) (fun c_147 => ?_)
      · exact absurd rfl c_147
      · clear c_147
        refine lv_aload_n hx hb dL_refuses_150 rfl (lv_at hl 0 rfl) ?_
        refine lv_iload hx hb dL_refuses_151 (lv_at hl 5 rfl) ?_
        refine j_calliM (vx_runSW (As := [.ref (h 0), .int w]) (rest := []) C.fix (c_L_rightPart l hl0 D aI aJ aZ h st u_142 w hi H.size) (vx_cwSW 2 hts gL_refuses_L_rightPart rfl rfl rfl (by decide +kernel) ⟨Nat.le_trans (m := 22) (Nat.le_of_ble_eq_true rfl) hRf, Nat.le_trans (m := 600) (Nat.le_of_ble_eq_true rfl) hRl⟩) (jxPreS hXs hA hS hN hK hP hD [0, 1, 2, 3, 4, 5, 6, 7, 8, 9, 10, 11, 12, 13, 14, 15, 16, 17, 18, 19, 20] rfl rfl (by decide)) rfl rfl hl.1 rfl (lv_room (Nat.le_of_ble_eq_true rfl)) dL_refuses_153 ⟨by omega, by omega⟩) hA hP hD hS [0, 1, 2, 3, 4, 5, 6, 7, 8, 9, 10, 11, 12, 13, 14, 15, 16, 17, 18, 19, 20] [] (wr := []) rfl rfl (by decide) (by decide) (fun r_153 u_153 H locs q_153 hP hD hS => ?_)
        have hP : va_P D vwCl (HC aI aJ h st u_153) H := hP
        have hD : va_D A (HC aI aJ h st u_153) := hD
        refine j_topi (y := (-9999001)) (rp_x hw q_153) ?_
        refine lv_ldc (v := (-9999001)) hx hb hown L_25 dL_refuses_156 ?_
        refine lv_icmp_ne (tgt := 301) hx hb dL_refuses_158 (by decide) (fun c_158 => ?_) (fun c_158 => ?_)
        · exact absurd rfl c_158
        · clear c_158
          refine lv_aload_n hx hb dL_refuses_161 rfl (lv_at hl 0 rfl) ?_
          refine lv_iload hx hb dL_refuses_162 (lv_at hl 4 rfl) ?_
          refine j_calliM (vx_runSW (As := [.ref (h 0), .int v]) (rest := []) C.fix (c_L_finePart l hl0 D aI aJ aZ h st u_153 v hi H.size) (vx_cwSW 2 hts gL_refuses_L_finePart rfl rfl rfl (by decide +kernel) ⟨Nat.le_trans (m := 22) (Nat.le_of_ble_eq_true rfl) hRf, Nat.le_trans (m := 600) (Nat.le_of_ble_eq_true rfl) hRl⟩) (jxPreS hXs hA hS hN hK hP hD [0, 1, 2, 3, 4, 5, 6, 7, 8, 9, 10, 11, 12, 13, 14, 15, 16, 17, 18, 19, 20] rfl rfl (by decide)) rfl rfl hl.1 rfl (lv_room (Nat.le_of_ble_eq_true rfl)) dL_refuses_164 ⟨by omega, by omega⟩) hA hP hD hS [0, 1, 2, 3, 4, 5, 6, 7, 8, 9, 10, 11, 12, 13, 14, 15, 16, 17, 18, 19, 20] [] (wr := []) rfl rfl (by decide) (by decide) (fun r_164 u_164 H locs q_164 hP hD hS => ?_)
          have hP : va_P D vwCl (HC aI aJ h st u_164) H := hP
          have hD : va_D A (HC aI aJ h st u_164) := hD
          refine j_topi (y := (-9999001)) (fp_x hv q_164) ?_
          refine lv_ldc (v := (-9999001)) hx hb hown L_25 dL_refuses_167 ?_
          refine lv_icmp_ne (tgt := 301) hx hb dL_refuses_169 (by decide) (fun c_169 => ?_) (fun c_169 => ?_)
          · exact absurd rfl c_169
          · clear c_169
            have hl := lv_sub (l' := [(0, .ref (h 0)), (1, .int (nI x)), (2, .int (nI (sNl st))), (3, .int (nI (sNr st))), (4, .int v), (5, .int w)]) hl [0, 1, 2, 3, 4, 5] rfl
            exact kk u_164 H _ ls _ _  hP hD hS hl (by omega) (by omega)
set_option maxHeartbeats 4000000 in
set_option maxRecDepth 100000 in
theorem rf_D  (l : Launch) (hl0 : l.stackTraces = false) (hRf : 22 ≤ R.frames) (hRl : 600 ≤ R.locals) (C : jC p s m meth c cL_refuses 10 (some .boolean) RL wsL_refuses D (jT aI aJ aZ) args A nm) (hXs : jXs A s s.heap) (hi : HI st) (hv : ix (sNl st) v = none) (hw : ix (sNr st) w = none) (hP : va_P D vwCl (HC aI aJ h st j) H) (hD : va_D A (HC aI aJ h st j)) (hS : va_S A s.heap H locs) (hl : lv_has ls 10 [(0, .ref (h 0)), (1, .int (nI x)), (2, .int (nI (sNl st))), (3, .int (nI (sNr st))), (4, .int v), (5, .int w)]) (hRc : cells + 14 ≤ R.cells) (hRs : slots + 84 ≤ R.slots) (kk : ∀ (j : Jk) (H : Heap) (locs : List Loc) (ls : Array Slot) (c1 s1 : Nat), va_P D vwCl (HC aI aJ h st j) H → va_D A (HC aI aJ h st j) → va_S A s.heap H locs → lv_has ls 10 [(0, .ref (h 0)), (1, .int (nI x)), (2, .int (nI (sNl st))), (3, .int (nI (sNr st))), (4, .int v), (5, .int w)] → c1 ≤ cells + 14 → s1 ≤ slots + 84 → W p l e R s m args below meth c H locs c1 s1 Q (F0 m 220 ls [])) : W p l e R s m args below meth c H locs cells slots Q (F0 m 172 ls []) := by
  obtain ⟨hx, hb, hml, hown, hts, hK, hA, hlocks, hr, hn, hN⟩ := id C
  have L_25 := hts (.constant RL 25 (-9999001)) (List.mem_of_getElem? (i := 1) rfl)
  have hnl : sNl st ≤ 12 := hi.1
  have hnr : sNr st ≤ 12 := hi.2.1
  refine lv_aload_n hx hb dL_refuses_172 rfl (lv_at hl 0 rfl) ?_
  refine lv_iload hx hb dL_refuses_173 (lv_at hl 4 rfl) ?_
  refine lv_iconst (v := nI 0) hx hb dL_refuses_175 (by decide) ?_
  refine j_calliM (vx_runSW (As := [.ref (h 0), .int v, .int (nI 0)]) (rest := []) C.fix (c_L_leads l hl0 D aI aJ aZ h st j v (nI 0) hi H.size) (vx_cwSW 3 hts gL_refuses_L_leads rfl rfl rfl (by decide +kernel) ⟨Nat.le_trans (m := 22) (Nat.le_of_ble_eq_true rfl) hRf, Nat.le_trans (m := 600) (Nat.le_of_ble_eq_true rfl) hRl⟩) (jxPreS hXs hA hS hN hK hP hD [0, 1, 2, 3, 4, 5, 6, 7, 8, 9, 10, 11, 12, 13, 14, 15, 16, 17, 18, 19, 20] rfl rfl (by decide)) rfl rfl hl.1 rfl (lv_room (Nat.le_of_ble_eq_true rfl)) dL_refuses_176 ⟨by omega, by omega⟩) hA hP hD hS [0, 1, 2, 3, 4, 5, 6, 7, 8, 9, 10, 11, 12, 13, 14, 15, 16, 17, 18, 19, 20] [] (wr := []) rfl rfl (by decide) (by decide) (fun r_176 u_176 H locs q_176 hP hD hS => ?_)
  have hP : va_P D vwCl (HC aI aJ h st u_176) H := hP
  have hD : va_D A (HC aI aJ h st u_176) := hD
  refine j_topi (y := (-9999001)) (le_x hv q_176) ?_
  refine lv_ldc (v := (-9999001)) hx hb hown L_25 dL_refuses_179 ?_
  refine lv_icmp_ne (tgt := 301) hx hb dL_refuses_181 (by decide) (fun c_181 => ?_) (fun c_181 => ?_)
  · exact absurd rfl c_181
  · clear c_181
    refine lv_aload_n hx hb dL_refuses_184 rfl (lv_at hl 0 rfl) ?_
    refine lv_iconst (v := nI 0) hx hb dL_refuses_185 (by decide) ?_
    refine lv_iload hx hb dL_refuses_186 (lv_at hl 4 rfl) ?_
    refine j_calliM (vx_runSW (As := [.ref (h 0), .int (nI 0), .int v]) (rest := []) C.fix (c_L_leads l hl0 D aI aJ aZ h st u_176 (nI 0) v hi H.size) (vx_cwSW 3 hts gL_refuses_L_leads rfl rfl rfl (by decide +kernel) ⟨Nat.le_trans (m := 22) (Nat.le_of_ble_eq_true rfl) hRf, Nat.le_trans (m := 600) (Nat.le_of_ble_eq_true rfl) hRl⟩) (jxPreS hXs hA hS hN hK hP hD [0, 1, 2, 3, 4, 5, 6, 7, 8, 9, 10, 11, 12, 13, 14, 15, 16, 17, 18, 19, 20] rfl rfl (by decide)) rfl rfl hl.1 rfl (lv_room (Nat.le_of_ble_eq_true rfl)) dL_refuses_188 ⟨by omega, by omega⟩) hA hP hD hS [0, 1, 2, 3, 4, 5, 6, 7, 8, 9, 10, 11, 12, 13, 14, 15, 16, 17, 18, 19, 20] [] (wr := []) rfl rfl (by decide) (by decide) (fun r_188 u_188 H locs q_188 hP hD hS => ?_)
    have hP : va_P D vwCl (HC aI aJ h st u_188) H := hP
    have hD : va_D A (HC aI aJ h st u_188) := hD
    refine j_topi (y := (-9999001)) (le_y hv q_188) ?_
    refine lv_ldc (v := (-9999001)) hx hb hown L_25 dL_refuses_191 ?_
    refine lv_icmp_ne (tgt := 301) hx hb dL_refuses_193 (by decide) (fun c_193 => ?_) (fun c_193 => ?_)
    · exact absurd rfl c_193
    · clear c_193
      refine lv_aload_n hx hb dL_refuses_196 rfl (lv_at hl 0 rfl) ?_
      refine lv_iload hx hb dL_refuses_197 (lv_at hl 4 rfl) ?_
      refine lv_iconst (v := nI 0) hx hb dL_refuses_199 (by decide) ?_
      refine j_calliM (vx_runSW (As := [.ref (h 0), .int v, .int (nI 0)]) (rest := []) C.fix (c_L_inSome l hl0 D aI aJ aZ h st u_188 v (nI 0) hi H.size) (vx_cwSW 3 hts gL_refuses_L_inSome rfl rfl rfl (by decide +kernel) ⟨Nat.le_trans (m := 22) (Nat.le_of_ble_eq_true rfl) hRf, Nat.le_trans (m := 600) (Nat.le_of_ble_eq_true rfl) hRl⟩) (jxPreS hXs hA hS hN hK hP hD [0, 1, 2, 3, 4, 5, 6, 7, 8, 9, 10, 11, 12, 13, 14, 15, 16, 17, 18, 19, 20] rfl rfl (by decide)) rfl rfl hl.1 rfl (lv_room (Nat.le_of_ble_eq_true rfl)) dL_refuses_200 ⟨by omega, by omega⟩) hA hP hD hS [0, 1, 2, 3, 4, 5, 6, 7, 8, 9, 10, 11, 12, 13, 14, 15, 16, 17, 18, 19, 20] [] (wr := []) rfl rfl (by decide) (by decide) (fun r_200 u_200 H locs q_200 hP hD hS => ?_)
      have hP : va_P D vwCl (HC aI aJ h st u_200) H := hP
      have hD : va_D A (HC aI aJ h st u_200) := hD
      refine j_topi (y := (-9999001)) (is_x hv q_200) ?_
      refine lv_ldc (v := (-9999001)) hx hb hown L_25 dL_refuses_203 ?_
      refine lv_icmp_ne (tgt := 301) hx hb dL_refuses_205 (by decide) (fun c_205 => ?_) (fun c_205 => ?_)
      · exact absurd rfl c_205
      · clear c_205
        refine lv_aload_n hx hb dL_refuses_208 rfl (lv_at hl 0 rfl) ?_
        refine lv_iconst (v := nI 0) hx hb dL_refuses_209 (by decide) ?_
        refine lv_iload hx hb dL_refuses_210 (lv_at hl 5 rfl) ?_
        refine j_calliM (vx_runSW (As := [.ref (h 0), .int (nI 0), .int w]) (rest := []) C.fix (c_L_inAll l hl0 D aI aJ aZ h st u_200 (nI 0) w hi H.size) (vx_cwSW 3 hts gL_refuses_L_inAll rfl rfl rfl (by decide +kernel) ⟨Nat.le_trans (m := 22) (Nat.le_of_ble_eq_true rfl) hRf, Nat.le_trans (m := 600) (Nat.le_of_ble_eq_true rfl) hRl⟩) (jxPreS hXs hA hS hN hK hP hD [0, 1, 2, 3, 4, 5, 6, 7, 8, 9, 10, 11, 12, 13, 14, 15, 16, 17, 18, 19, 20] rfl rfl (by decide)) rfl rfl hl.1 rfl (lv_room (Nat.le_of_ble_eq_true rfl)) dL_refuses_212 ⟨by omega, by omega⟩) hA hP hD hS [0, 1, 2, 3, 4, 5, 6, 7, 8, 9, 10, 11, 12, 13, 14, 15, 16, 17, 18, 19, 20] [] (wr := []) rfl rfl (by decide) (by decide) (fun r_212 u_212 H locs q_212 hP hD hS => ?_)
        have hP : va_P D vwCl (HC aI aJ h st u_212) H := hP
        have hD : va_D A (HC aI aJ h st u_212) := hD
        refine j_topi (y := (-9999001)) (ia_y hw q_212) ?_
        refine lv_ldc (v := (-9999001)) hx hb hown L_25 dL_refuses_215 ?_
        refine lv_icmp_ne (tgt := 301) hx hb dL_refuses_217 (by decide) (fun c_217 => ?_) (fun c_217 => ?_)
        · exact absurd rfl c_217
        · clear c_217
          have hl := lv_sub (l' := [(0, .ref (h 0)), (1, .int (nI x)), (2, .int (nI (sNl st))), (3, .int (nI (sNr st))), (4, .int v), (5, .int w)]) hl [0, 1, 2, 3, 4, 5] rfl
          exact kk u_212 H _ ls _ _  hP hD hS hl (by omega) (by omega)
set_option maxHeartbeats 4000000 in
set_option maxRecDepth 100000 in
theorem rf_E  (l : Launch) (hl0 : l.stackTraces = false) (hRf : 22 ≤ R.frames) (hRl : 600 ≤ R.locals) (C : jC p s m meth c cL_refuses 10 (some .boolean) RL wsL_refuses D (jT aI aJ aZ) args A nm) (hXs : jXs A s s.heap) (hi : HI st) (hv : ix (sNl st) v = none) (hw : ix (sNr st) w = none) (hx1 : x < 10000) (hP : va_P D vwCl (HC aI aJ h st j) H) (hD : va_D A (HC aI aJ h st j)) (hS : va_S A s.heap H locs) (hl : lv_has ls 10 [(0, .ref (h 0)), (1, .int (nI x)), (2, .int (nI (sNl st))), (3, .int (nI (sNr st))), (4, .int v), (5, .int w)]) (hRc : cells + 4 ≤ R.cells) (hRs : slots + 24 ≤ R.slots) (kk : ∀ (j : Jk) (H : Heap) (locs : List Loc) (ls : Array Slot) (c1 s1 : Nat), va_P D vwCl (HC aI aJ h st j) H → va_D A (HC aI aJ h st j) → va_S A s.heap H locs → lv_has ls 10 [(0, .ref (h 0)), (1, .int (nI x)), (2, .int (nI (sNl st))), (3, .int (nI (sNr st))), (4, .int v), (5, .int w)] → c1 ≤ cells + 4 → s1 ≤ slots + 24 → W p l e R s m args below meth c H locs c1 s1 Q (F0 m 267 ls [])) : W p l e R s m args below meth c H locs cells slots Q (F0 m 220 ls []) := by
  obtain ⟨hx, hb, hml, hown, hts, hK, hA, hlocks, hr, hn, hN⟩ := id C
  have L_25 := hts (.constant RL 25 (-9999001)) (List.mem_of_getElem? (i := 1) rfl)
  have hnl : sNl st ≤ 12 := hi.1
  have hnr : sNr st ≤ 12 := hi.2.1
  refine lv_aload_n hx hb dL_refuses_220 rfl (lv_at hl 0 rfl) ?_
  refine lv_iload hx hb dL_refuses_221 (lv_at hl 4 rfl) ?_
  refine j_calliM (vx_runSW (As := [.ref (h 0), .int v]) (rest := []) C.fix (c_L_leftCover l hl0 D aI aJ aZ h st j v hi H.size) (vx_cwSW 2 hts gL_refuses_L_leftCover rfl rfl rfl (by decide +kernel) ⟨Nat.le_trans (m := 22) (Nat.le_of_ble_eq_true rfl) hRf, Nat.le_trans (m := 600) (Nat.le_of_ble_eq_true rfl) hRl⟩) (jxPreS hXs hA hS hN hK hP hD [0, 1, 2, 3, 4, 5, 6, 7, 8, 9, 10, 11, 12, 13, 14, 15, 16, 17, 18, 19, 20] rfl rfl (by decide)) rfl rfl hl.1 rfl (lv_room (Nat.le_of_ble_eq_true rfl)) dL_refuses_223 ⟨by omega, by omega⟩) hA hP hD hS [0, 1, 2, 3, 4, 5, 6, 7, 8, 9, 10, 11, 12, 13, 14, 15, 16, 17, 18, 19, 20] [] (wr := []) rfl rfl (by decide) (by decide) (fun r_223 u_223 H locs q_223 hP hD hS => ?_)
  have hP : va_P D vwCl (HC aI aJ h st u_223) H := hP
  have hD : va_D A (HC aI aJ h st u_223) := hD
  refine j_topi (y := (-9999001)) (lc_x hv q_223) ?_
  refine lv_ldc (v := (-9999001)) hx hb hown L_25 dL_refuses_226 ?_
  refine lv_icmp_ne (tgt := 301) hx hb dL_refuses_228 (by decide) (fun c_228 => ?_) (fun c_228 => ?_)
  · exact absurd rfl c_228
  · clear c_228
    refine lv_aload_n hx hb dL_refuses_231 rfl (lv_at hl 0 rfl) ?_
    refine lv_iload hx hb dL_refuses_232 (lv_at hl 5 rfl) ?_
    refine j_calliM (vx_runSW (As := [.ref (h 0), .int w]) (rest := []) C.fix (c_L_rightCover l hl0 D aI aJ aZ h st u_223 w hi H.size) (vx_cwSW 2 hts gL_refuses_L_rightCover rfl rfl rfl (by decide +kernel) ⟨Nat.le_trans (m := 22) (Nat.le_of_ble_eq_true rfl) hRf, Nat.le_trans (m := 600) (Nat.le_of_ble_eq_true rfl) hRl⟩) (jxPreS hXs hA hS hN hK hP hD [0, 1, 2, 3, 4, 5, 6, 7, 8, 9, 10, 11, 12, 13, 14, 15, 16, 17, 18, 19, 20] rfl rfl (by decide)) rfl rfl hl.1 rfl (lv_room (Nat.le_of_ble_eq_true rfl)) dL_refuses_234 ⟨by omega, by omega⟩) hA hP hD hS [0, 1, 2, 3, 4, 5, 6, 7, 8, 9, 10, 11, 12, 13, 14, 15, 16, 17, 18, 19, 20] [] (wr := []) rfl rfl (by decide) (by decide) (fun r_234 u_234 H locs q_234 hP hD hS => ?_)
    have hP : va_P D vwCl (HC aI aJ h st u_234) H := hP
    have hD : va_D A (HC aI aJ h st u_234) := hD
    refine j_topi (y := (-9999001)) (rc_x hw q_234) ?_
    refine lv_ldc (v := (-9999001)) hx hb hown L_25 dL_refuses_237 ?_
    refine lv_icmp_ne (tgt := 301) hx hb dL_refuses_239 (by decide) (fun c_239 => ?_) (fun c_239 => ?_)
    · exact absurd rfl c_239
    · clear c_239
      refine lv_aload_n hx hb dL_refuses_242 rfl (lv_at hl 0 rfl) ?_
      refine lv_aload_n hx hb dL_refuses_243 rfl (lv_at hl 0 rfl) ?_
      refine j_calli (va_runV (As := []) (rest := [.ref (h 0)]) C.fix (k_phases l D aI aJ aZ h st u_234 hi H.size) (cwV 0 hts gL_refuses_X6_phases rfl rfl rfl (by decide +kernel) ⟨Nat.le_trans (m := 22) (Nat.le_of_ble_eq_true rfl) hRf, Nat.le_trans (m := 600) (Nat.le_of_ble_eq_true rfl) hRl⟩) (jPreV hN hK hP hD [0, 1, 2, 3, 4, 5, 6, 7, 8, 9, 10, 11, 12, 13, 14, 15, 16, 17, 18, 19, 20] rfl rfl (by decide) (ci := 6) (q0 := 0) rfl rfl) rfl rfl hl.1 rfl (lv_room (Nat.le_of_ble_eq_true rfl)) dL_refuses_244 ⟨by omega, by omega⟩) hA hP hD hS [0, 1, 2, 3, 4, 5, 6, 7, 8, 9, 10, 11, 12, 13, 14, 15, 16, 17, 18, 19, 20] [] (wr := []) rfl rfl (by decide) (by decide) (fun r_244 u_244 H locs q_244 hP hD hS => ?_)
      have hP : va_P D vwCl (HC aI aJ h st u_244) H := hP
      have hD : va_D A (HC aI aJ h st u_244) := hD
      refine j_topi (y := nI (phC (sE st) (sNl st) (sNr st))) (q_244) ?_
      refine j_calliM (vx_runSW (As := [.ref (h 0), .int (nI (phC (sE st) (sNl st) (sNr st)))]) (rest := []) C.fix (c_L_depth l hl0 D aI aJ aZ h st u_244 (nI (phC (sE st) (sNl st) (sNr st))) hi H.size) (vx_cwSW 2 hts gL_refuses_L_depth rfl rfl rfl (by decide +kernel) ⟨Nat.le_trans (m := 22) (Nat.le_of_ble_eq_true rfl) hRf, Nat.le_trans (m := 600) (Nat.le_of_ble_eq_true rfl) hRl⟩) (jxPreS hXs hA hS hN hK hP hD [0, 1, 2, 3, 4, 5, 6, 7, 8, 9, 10, 11, 12, 13, 14, 15, 16, 17, 18, 19, 20] rfl rfl (by decide)) rfl rfl hl.1 rfl (lv_room (Nat.le_of_ble_eq_true rfl)) dL_refuses_247 ⟨by omega, by omega⟩) hA hP hD hS [0, 1, 2, 3, 4, 5, 6, 7, 8, 9, 10, 11, 12, 13, 14, 15, 16, 17, 18, 19, 20] [] (wr := []) rfl rfl (by decide) (by decide) (fun r_247 u_247 H locs q_247 hP hD hS => ?_)
      have hP : va_P D vwCl (HC aI aJ h st u_247) H := hP
      have hD : va_D A (HC aI aJ h st u_247) := hD
      refine j_topi (y := (-9999001)) (de_x (ix_big (nI_le (Nat.le_refl _) phC31)) q_247) ?_
      refine lv_ldc (v := (-9999001)) hx hb hown L_25 dL_refuses_250 ?_
      refine lv_icmp_ne (tgt := 301) hx hb dL_refuses_252 (by decide) (fun c_252 => ?_) (fun c_252 => ?_)
      · exact absurd rfl c_252
      · clear c_252
        refine lv_aload_n hx hb dL_refuses_255 rfl (lv_at hl 0 rfl) ?_
        refine lv_iconst (v := (-1)) hx hb dL_refuses_256 (by decide) ?_
        refine lv_iload_n hx hb dL_refuses_257 rfl (lv_at hl 1 rfl) ?_
        refine lv_isub hx hb dL_refuses_258 ?_
        refine j_calliM (vx_runSW (As := [.ref (h 0), .int ((-1) - (nI x))]) (rest := []) C.fix (c_L_paths l hl0 D aI aJ aZ h st u_247 ((-1) - (nI x)) hi H.size) (vx_cwSW 2 hts gL_refuses_L_paths rfl rfl rfl (by decide +kernel) ⟨Nat.le_trans (m := 22) (Nat.le_of_ble_eq_true rfl) hRf, Nat.le_trans (m := 600) (Nat.le_of_ble_eq_true rfl) hRl⟩) (jxPreS hXs hA hS hN hK hP hD [0, 1, 2, 3, 4, 5, 6, 7, 8, 9, 10, 11, 12, 13, 14, 15, 16, 17, 18, 19, 20] rfl rfl (by decide)) rfl rfl hl.1 rfl (lv_room (Nat.le_of_ble_eq_true rfl)) dL_refuses_259 ⟨by omega, by omega⟩) hA hP hD hS [0, 1, 2, 3, 4, 5, 6, 7, 8, 9, 10, 11, 12, 13, 14, 15, 16, 17, 18, 19, 20] [] (wr := []) rfl rfl (by decide) (by decide) (fun r_259 u_259 H locs q_259 hP hD hS => ?_)
        have hP : va_P D vwCl (HC aI aJ h st u_259) H := hP
        have hD : va_D A (HC aI aJ h st u_259) := hD
        refine j_topi (y := (-9999001)) (ph_x (ix_neg (m1_neg2 hx1)) q_259) ?_
        refine lv_ldc (v := (-9999001)) hx hb hown L_25 dL_refuses_262 ?_
        refine lv_icmp_ne (tgt := 301) hx hb dL_refuses_264 (by decide) (fun c_264 => ?_) (fun c_264 => ?_)
        · exact absurd rfl c_264
        · clear c_264
          have hl := lv_sub (l' := [(0, .ref (h 0)), (1, .int (nI x)), (2, .int (nI (sNl st))), (3, .int (nI (sNr st))), (4, .int v), (5, .int w)]) hl [0, 1, 2, 3, 4, 5] rfl
          exact kk u_259 H _ ls _ _  hP hD hS hl (by omega) (by omega)
set_option maxHeartbeats 4000000 in
set_option maxRecDepth 100000 in
theorem rf_F  (l : Launch) (hl0 : l.stackTraces = false) (hRf : 22 ≤ R.frames) (hRl : 600 ≤ R.locals) (C : jC p s m meth c cL_refuses 10 (some .boolean) RL wsL_refuses D (jT aI aJ aZ) args A nm) (hXs : jXs A s s.heap) (hi : HI st) (hP : va_P D vwCl (HC aI aJ h st j) H) (hD : va_D A (HC aI aJ h st j)) (hS : va_S A s.heap H locs) (hl : lv_has ls 10 [(0, .ref (h 0)), (1, .int (nI x)), (2, .int (nI (sNl st))), (3, .int (nI (sNr st)))]) (hRc : cells + 2 ≤ R.cells) (hRs : slots + 12 ≤ R.slots) (kk : ∀ (j : Jk) (H : Heap) (locs : List Loc) (ls : Array Slot) (c1 s1 : Nat), va_P D vwCl (HC aI aJ h st j) H → va_D A (HC aI aJ h st j) → va_S A s.heap H locs → lv_has ls 10 [(0, .ref (h 0)), (1, .int (nI x)), (2, .int (nI (sNl st))), (3, .int (nI (sNr st))), (6, .int (nI 1))] → c1 ≤ cells + 2 → s1 ≤ slots + 12 → W p l e R s m args below meth c H locs c1 s1 Q (F0 m 304 ls [])) : W p l e R s m args below meth c H locs cells slots Q (F0 m 267 ls []) := by
  obtain ⟨hx, hb, hml, hown, hts, hK, hA, hlocks, hr, hn, hN⟩ := id C
  have L_15 := hts (.constant RL 15 (-9999003)) (List.mem_of_getElem? (i := 2) rfl)
  have hnl : sNl st ≤ 12 := hi.1
  have hnr : sNr st ≤ 12 := hi.2.1
  refine lv_iload_n hx hb dL_refuses_267 rfl (lv_at hl 2 rfl) ?_
  refine lv_bipush (v := nI 12) hx hb dL_refuses_268 (by decide) ?_
  refine lv_icmp_lt (tgt := 282) hx hb dL_refuses_270 (by decide) (fun c_270 => ?_) (fun c_270 => ?_)
  · have hf : True := trivial
    refine lv_iload_n hx hb dL_refuses_282 rfl (lv_at hl 3 rfl) ?_
    refine lv_bipush (v := nI 12) hx hb dL_refuses_283 (by decide) ?_
    refine lv_icmp_lt (tgt := 297) hx hb dL_refuses_285 (by decide) (fun c_285 => ?_) (fun c_285 => ?_)
    · have hf2 : True := trivial
      refine lv_iconst (v := nI 1) hx hb dL_refuses_297 (by decide) ?_
      refine lv_goto (tgt := 302) hx hb dL_refuses_298 (by decide) ?_
      refine lv_istore (lv' := [(6, .int (nI 1)), (0, .ref (h 0)), (1, .int (nI x)), (2, .int (nI (sNl st))), (3, .int (nI (sNr st)))]) hx hb dL_refuses_302 hl (by decide) rfl (fun ls hl => ?_)
      have hl := lv_sub (l' := [(0, .ref (h 0)), (1, .int (nI x)), (2, .int (nI (sNl st))), (3, .int (nI (sNr st))), (6, .int (nI 1))]) hl [1, 2, 3, 4, 0] rfl
      exact kk j H _ ls _ _  hP hD hS hl (by omega) (by omega)
    · rw [cv_lt (by omega) (by decide)] at c_285
      refine lv_aload_n hx hb dL_refuses_288 rfl (lv_at hl 0 rfl) ?_
      refine j_calliM (vx_runSW (As := [.ref (h 0)]) (rest := []) C.fix (c_L_newRight l hl0 D aI aJ aZ h st j  hi H.size) (vx_cwSW 1 hts gL_refuses_L_newRight rfl rfl rfl (by decide +kernel) ⟨Nat.le_trans (m := 22) (Nat.le_of_ble_eq_true rfl) hRf, Nat.le_trans (m := 600) (Nat.le_of_ble_eq_true rfl) hRl⟩) (jxPreS hXs hA hS hN hK hP hD [0, 1, 2, 3, 4, 5, 6, 7, 8, 9, 10, 11, 12, 13, 14, 15, 16, 17, 18, 19, 20] rfl rfl (by decide)) rfl rfl hl.1 rfl (lv_room (Nat.le_of_ble_eq_true rfl)) dL_refuses_289 ⟨by omega, by omega⟩) hA hP hD hS [0, 1, 2, 3, 4, 5, 6, 7, 8, 9, 10, 11, 12, 13, 14, 15, 16, 17, 18, 19, 20] [] (wr := []) rfl rfl (by decide) (by decide) (fun r_289 u_289 H locs q_289 hP hD hS => ?_)
      have hP : va_P D vwCl (HC aI aJ h u_289.1 u_289.2) H := hP
      have hD : va_D A (HC aI aJ h u_289.1 u_289.2) := hD
      have et_289 := (nr_full c_285 q_289).1
      have er_289 := (nr_full c_285 q_289).2
      rw [et_289] at hP hD
      have hP : va_P D vwCl (HC aI aJ h st u_289.2) H := hP
      have hD : va_D A (HC aI aJ h st u_289.2) := hD
      refine j_topi (y := (-9999003)) er_289 ?_
      refine lv_ldc (v := (-9999003)) hx hb hown L_15 dL_refuses_292 ?_
      refine lv_icmp_ne (tgt := 301) hx hb dL_refuses_294 (by decide) (fun c_294 => ?_) (fun c_294 => ?_)
      · exact absurd rfl c_294
      · clear c_294
        refine lv_iconst (v := nI 1) hx hb dL_refuses_297 (by decide) ?_
        refine lv_goto (tgt := 302) hx hb dL_refuses_298 (by decide) ?_
        refine lv_istore (lv' := [(6, .int (nI 1)), (0, .ref (h 0)), (1, .int (nI x)), (2, .int (nI (sNl st))), (3, .int (nI (sNr st)))]) hx hb dL_refuses_302 hl (by decide) rfl (fun ls hl => ?_)
        have hl := lv_sub (l' := [(0, .ref (h 0)), (1, .int (nI x)), (2, .int (nI (sNl st))), (3, .int (nI (sNr st))), (6, .int (nI 1))]) hl [1, 2, 3, 4, 0] rfl
        exact kk u_289.2 H _ ls _ _  hP hD hS hl (by omega) (by omega)
  · rw [cv_lt (by omega) (by decide)] at c_270
    refine lv_aload_n hx hb dL_refuses_273 rfl (lv_at hl 0 rfl) ?_
    refine j_calliM (vx_runSW (As := [.ref (h 0)]) (rest := []) C.fix (c_L_newLeft l hl0 D aI aJ aZ h st j  hi H.size) (vx_cwSW 1 hts gL_refuses_L_newLeft rfl rfl rfl (by decide +kernel) ⟨Nat.le_trans (m := 22) (Nat.le_of_ble_eq_true rfl) hRf, Nat.le_trans (m := 600) (Nat.le_of_ble_eq_true rfl) hRl⟩) (jxPreS hXs hA hS hN hK hP hD [0, 1, 2, 3, 4, 5, 6, 7, 8, 9, 10, 11, 12, 13, 14, 15, 16, 17, 18, 19, 20] rfl rfl (by decide)) rfl rfl hl.1 rfl (lv_room (Nat.le_of_ble_eq_true rfl)) dL_refuses_274 ⟨by omega, by omega⟩) hA hP hD hS [0, 1, 2, 3, 4, 5, 6, 7, 8, 9, 10, 11, 12, 13, 14, 15, 16, 17, 18, 19, 20] [] (wr := []) rfl rfl (by decide) (by decide) (fun r_274 u_274 H locs q_274 hP hD hS => ?_)
    have hP : va_P D vwCl (HC aI aJ h u_274.1 u_274.2) H := hP
    have hD : va_D A (HC aI aJ h u_274.1 u_274.2) := hD
    have et_274 := (nl_full c_270 q_274).1
    have er_274 := (nl_full c_270 q_274).2
    rw [et_274] at hP hD
    have hP : va_P D vwCl (HC aI aJ h st u_274.2) H := hP
    have hD : va_D A (HC aI aJ h st u_274.2) := hD
    refine j_topi (y := (-9999003)) er_274 ?_
    refine lv_ldc (v := (-9999003)) hx hb hown L_15 dL_refuses_277 ?_
    refine lv_icmp_ne (tgt := 301) hx hb dL_refuses_279 (by decide) (fun c_279 => ?_) (fun c_279 => ?_)
    · exact absurd rfl c_279
    · clear c_279
      refine lv_iload_n hx hb dL_refuses_282 rfl (lv_at hl 3 rfl) ?_
      refine lv_bipush (v := nI 12) hx hb dL_refuses_283 (by decide) ?_
      refine lv_icmp_lt (tgt := 297) hx hb dL_refuses_285 (by decide) (fun c_285 => ?_) (fun c_285 => ?_)
      · have hf2 : True := trivial
        refine lv_iconst (v := nI 1) hx hb dL_refuses_297 (by decide) ?_
        refine lv_goto (tgt := 302) hx hb dL_refuses_298 (by decide) ?_
        refine lv_istore (lv' := [(6, .int (nI 1)), (0, .ref (h 0)), (1, .int (nI x)), (2, .int (nI (sNl st))), (3, .int (nI (sNr st)))]) hx hb dL_refuses_302 hl (by decide) rfl (fun ls hl => ?_)
        have hl := lv_sub (l' := [(0, .ref (h 0)), (1, .int (nI x)), (2, .int (nI (sNl st))), (3, .int (nI (sNr st))), (6, .int (nI 1))]) hl [1, 2, 3, 4, 0] rfl
        exact kk u_274.2 H _ ls _ _  hP hD hS hl (by omega) (by omega)
      · rw [cv_lt (by omega) (by decide)] at c_285
        refine lv_aload_n hx hb dL_refuses_288 rfl (lv_at hl 0 rfl) ?_
        refine j_calliM (vx_runSW (As := [.ref (h 0)]) (rest := []) C.fix (c_L_newRight l hl0 D aI aJ aZ h st u_274.2  hi H.size) (vx_cwSW 1 hts gL_refuses_L_newRight rfl rfl rfl (by decide +kernel) ⟨Nat.le_trans (m := 22) (Nat.le_of_ble_eq_true rfl) hRf, Nat.le_trans (m := 600) (Nat.le_of_ble_eq_true rfl) hRl⟩) (jxPreS hXs hA hS hN hK hP hD [0, 1, 2, 3, 4, 5, 6, 7, 8, 9, 10, 11, 12, 13, 14, 15, 16, 17, 18, 19, 20] rfl rfl (by decide)) rfl rfl hl.1 rfl (lv_room (Nat.le_of_ble_eq_true rfl)) dL_refuses_289 ⟨by omega, by omega⟩) hA hP hD hS [0, 1, 2, 3, 4, 5, 6, 7, 8, 9, 10, 11, 12, 13, 14, 15, 16, 17, 18, 19, 20] [] (wr := []) rfl rfl (by decide) (by decide) (fun r_289 u_289 H locs q_289 hP hD hS => ?_)
        have hP : va_P D vwCl (HC aI aJ h u_289.1 u_289.2) H := hP
        have hD : va_D A (HC aI aJ h u_289.1 u_289.2) := hD
        have et_289 := (nr_full c_285 q_289).1
        have er_289 := (nr_full c_285 q_289).2
        rw [et_289] at hP hD
        have hP : va_P D vwCl (HC aI aJ h st u_289.2) H := hP
        have hD : va_D A (HC aI aJ h st u_289.2) := hD
        refine j_topi (y := (-9999003)) er_289 ?_
        refine lv_ldc (v := (-9999003)) hx hb hown L_15 dL_refuses_292 ?_
        refine lv_icmp_ne (tgt := 301) hx hb dL_refuses_294 (by decide) (fun c_294 => ?_) (fun c_294 => ?_)
        · exact absurd rfl c_294
        · clear c_294
          refine lv_iconst (v := nI 1) hx hb dL_refuses_297 (by decide) ?_
          refine lv_goto (tgt := 302) hx hb dL_refuses_298 (by decide) ?_
          refine lv_istore (lv' := [(6, .int (nI 1)), (0, .ref (h 0)), (1, .int (nI x)), (2, .int (nI (sNl st))), (3, .int (nI (sNr st)))]) hx hb dL_refuses_302 hl (by decide) rfl (fun ls hl => ?_)
          have hl := lv_sub (l' := [(0, .ref (h 0)), (1, .int (nI x)), (2, .int (nI (sNl st))), (3, .int (nI (sNr st))), (6, .int (nI 1))]) hl [1, 2, 3, 4, 0] rfl
          exact kk u_289.2 H _ ls _ _  hP hD hS hl (by omega) (by omega)
set_option maxHeartbeats 4000000 in
set_option maxRecDepth 100000 in
theorem rf_G  (l : Launch) (hl0 : l.stackTraces = false) (hRf : 22 ≤ R.frames) (hRl : 600 ≤ R.locals) (C : jC p s m meth c cL_refuses 10 (some .boolean) RL wsL_refuses D (jT aI aJ aZ) args A nm) (hXs : jXs A s s.heap) (hi : HI st) (hx2 : x < 2 ^ 31) (hP : va_P D vwCl (HC aI aJ h st j) H) (hD : va_D A (HC aI aJ h st j)) (hS : va_S A s.heap H locs) (hl : lv_has ls 10 [(0, .ref (h 0)), (1, .int (nI x)), (2, .int (nI (sNl st))), (3, .int (nI (sNr st))), (6, .int (nI 1))]) (hRc : cells + 11 ≤ R.cells) (hRs : slots + 66 ≤ R.slots) (kk : ∀ (j : Jk) (H : Heap) (locs : List Loc) (ls : Array Slot) (c1 s1 : Nat), va_P D vwCl (HC aI aJ h st j) H → va_D A (HC aI aJ h st j) → va_S A s.heap H locs → lv_has ls 10 [(0, .ref (h 0)), (6, .int (nI 1))] → c1 ≤ cells + 11 → s1 ≤ slots + 66 → W p l e R s m args below meth c H locs c1 s1 Q (F0 m 421 ls [])) : W p l e R s m args below meth c H locs cells slots Q (F0 m 304 ls []) := by
  obtain ⟨hx, hb, hml, hown, hts, hK, hA, hlocks, hr, hn, hN⟩ := id C
  have L_15 := hts (.constant RL 15 (-9999003)) (List.mem_of_getElem? (i := 2) rfl)
  have L_31 := hts (.constant RL 31 (-9999004)) (List.mem_of_getElem? (i := 3) rfl)
  have hnl : sNl st ≤ 12 := hi.1
  have hnr : sNr st ≤ 12 := hi.2.1
  refine lv_iload hx hb dL_refuses_304 (lv_at hl 4 rfl) ?_
  refine lv_if_eq (tgt := 421) hx hb dL_refuses_306 (by decide) (fun c_306 => ?_) (fun c_306 => ?_)
  · exact absurd c_306 (by decide)
  · clear c_306
    refine lv_iload_n hx hb dL_refuses_309 rfl (lv_at hl 2 rfl) ?_
    refine lv_if_le (tgt := 421) hx hb dL_refuses_310 (by decide) (fun c_310 => ?_) (fun c_310 => ?_)
    · clear c_310
      have hl := lv_sub (l' := [(0, .ref (h 0)), (6, .int (nI 1))]) hl [0, 4] rfl
      exact kk j H _ ls _ _  hP hD hS hl (by omega) (by omega)
    · have hl1 : 0 < sNl st := by
          refine Nat.pos_of_ne_zero (fun z => c_310 ?_)
          rw [z]
          exact Int32.le_refl _
      refine lv_iload_n hx hb dL_refuses_313 rfl (lv_at hl 3 rfl) ?_
      refine lv_if_le (tgt := 421) hx hb dL_refuses_314 (by decide) (fun c_314 => ?_) (fun c_314 => ?_)
      · clear c_314
        have hl := lv_sub (l' := [(0, .ref (h 0)), (6, .int (nI 1))]) hl [0, 4] rfl
        exact kk j H _ ls _ _  hP hD hS hl (by omega) (by omega)
      · have hr1 : 0 < sNr st := by
            refine Nat.pos_of_ne_zero (fun z => c_314 ?_)
            rw [z]
            exact Int32.le_refl _
        refine lv_iload_n hx hb dL_refuses_317 rfl (lv_at hl 1 rfl) ?_
        refine lv_iload_n hx hb dL_refuses_318 rfl (lv_at hl 2 rfl) ?_
        refine lv_irem hx hb dL_refuses_319 (nI_ne0 hl1 (by omega)) ?_
        refine j_topi (y := nI (x % (sNl st))) (pk_rem (hx2) (hl1) (by omega)) ?_
        refine lv_istore (lv' := [(7, .int (nI (x % (sNl st)))), (0, .ref (h 0)), (1, .int (nI x)), (2, .int (nI (sNl st))), (3, .int (nI (sNr st))), (6, .int (nI 1))]) hx hb dL_refuses_320 hl (by decide) rfl (fun ls hl => ?_)
        refine lv_iload_n hx hb dL_refuses_322 rfl (lv_at hl 2 rfl) ?_
        refine lv_bipush (v := nI 12) hx hb dL_refuses_323 (by decide) ?_
        refine lv_idiv hx hb dL_refuses_325 (by decide) ?_
        refine j_topi (y := nI (x / 12)) (pk_div (hx2) (by omega) (by omega)) ?_
        refine lv_iload_n hx hb dL_refuses_326 rfl (lv_at hl 4 rfl) ?_
        refine lv_irem hx hb dL_refuses_327 (nI_ne0 hr1 (by omega)) ?_
        refine j_topi (y := nI ((x / 12) % (sNr st))) (pk_rem (by omega) (hr1) (by omega)) ?_
        refine lv_istore (lv' := [(8, .int (nI ((x / 12) % (sNr st)))), (7, .int (nI (x % (sNl st)))), (0, .ref (h 0)), (1, .int (nI x)), (2, .int (nI (sNl st))), (3, .int (nI (sNr st))), (6, .int (nI 1))]) hx hb dL_refuses_328 hl (by decide) rfl (fun ls hl => ?_)
        refine lv_aload_n hx hb dL_refuses_330 rfl (lv_at hl 2 rfl) ?_
        refine lv_iload hx hb dL_refuses_331 (lv_at hl 1 rfl) ?_
        refine lv_iload hx hb dL_refuses_333 (lv_at hl 0 rfl) ?_
        refine j_calliM (vx_runSW (As := [.ref (h 0), .int (nI (x % (sNl st))), .int (nI ((x / 12) % (sNr st)))]) (rest := []) C.fix (c_L_has l hl0 D aI aJ aZ h st j (nI (x % (sNl st))) (nI ((x / 12) % (sNr st))) hi H.size) (vx_cwSW 3 hts gL_refuses_L_has rfl rfl rfl (by decide +kernel) ⟨Nat.le_trans (m := 22) (Nat.le_of_ble_eq_true rfl) hRf, Nat.le_trans (m := 600) (Nat.le_of_ble_eq_true rfl) hRl⟩) (jxPreS hXs hA hS hN hK hP hD [0, 1, 2, 3, 4, 5, 6, 7, 8, 9, 10, 11, 12, 13, 14, 15, 16, 17, 18, 19, 20] rfl rfl (by decide)) rfl rfl hl.1 rfl (lv_room (Nat.le_of_ble_eq_true rfl)) dL_refuses_335 ⟨by omega, by omega⟩) hA hP hD hS [0, 1, 2, 3, 4, 5, 6, 7, 8, 9, 10, 11, 12, 13, 14, 15, 16, 17, 18, 19, 20] [] (wr := []) rfl rfl (by decide) (by decide) (fun r_335 u_335 H locs q_335 hP hD hS => ?_)
        have hP : va_P D vwCl (HC aI aJ h st u_335) H := hP
        have hD : va_D A (HC aI aJ h st u_335) := hD
        refine j_topi (y := nI (b2n (sE st (x % sNl st) (x / 12 % sNr st)))) (ha_at (ix_of (by omega) (Nat.mod_lt _ hl1) rfl) (ix_of (by omega) (Nat.mod_lt _ hr1) rfl) q_335) ?_
        refine lv_iconst (v := nI 1) hx hb dL_refuses_338 (by decide) ?_
        refine lv_icmp_ne (tgt := 346) hx hb dL_refuses_339 (by decide) (fun c_339 => ?_) (fun c_339 => ?_)
        · have hE := b2n_n1 c_339
          refine lv_iconst (v := nI 0) hx hb dL_refuses_346 (by decide) ?_
          refine lv_istore (lv' := [(9, .int (nI 0)), (8, .int (nI ((x / 12) % (sNr st)))), (7, .int (nI (x % (sNl st)))), (0, .ref (h 0)), (1, .int (nI x)), (2, .int (nI (sNl st))), (3, .int (nI (sNr st))), (6, .int (nI 1))]) hx hb dL_refuses_347 hl (by decide) rfl (fun ls hl => ?_)
          refine lv_iload hx hb dL_refuses_349 (lv_at hl 0 rfl) ?_
          refine lv_if_eq (tgt := 375) hx hb dL_refuses_351 (by decide) (fun c_351 => ?_) (fun c_351 => ?_)
          · clear c_351
            refine lv_aload_n hx hb dL_refuses_375 rfl (lv_at hl 3 rfl) ?_
            refine lv_iload hx hb dL_refuses_376 (lv_at hl 2 rfl) ?_
            refine lv_iload hx hb dL_refuses_378 (lv_at hl 1 rfl) ?_
            refine j_calliM (vx_runSW (As := [.ref (h 0), .int (nI (x % (sNl st))), .int (nI ((x / 12) % (sNr st)))]) (rest := []) C.fix (c_L_parted l hl0 D aI aJ aZ h st u_335 (nI (x % (sNl st))) (nI ((x / 12) % (sNr st))) hi H.size) (vx_cwSW 3 hts gL_refuses_L_parted rfl rfl rfl (by decide +kernel) ⟨Nat.le_trans (m := 22) (Nat.le_of_ble_eq_true rfl) hRf, Nat.le_trans (m := 600) (Nat.le_of_ble_eq_true rfl) hRl⟩) (jxPreS hXs hA hS hN hK hP hD [0, 1, 2, 3, 4, 5, 6, 7, 8, 9, 10, 11, 12, 13, 14, 15, 16, 17, 18, 19, 20] rfl rfl (by decide)) rfl rfl hl.1 rfl (lv_room (Nat.le_of_ble_eq_true rfl)) dL_refuses_380 ⟨by omega, by omega⟩) hA hP hD hS [0, 1, 2, 3, 4, 5, 6, 7, 8, 9, 10, 11, 12, 13, 14, 15, 16, 17, 18, 19, 20] [] (wr := []) rfl rfl (by decide) (by decide) (fun r_380 u_380 H locs q_380 hP hD hS => ?_)
            have hP : va_P D vwCl (HC aI aJ h u_380.1 u_380.2) H := hP
            have hD : va_D A (HC aI aJ h u_380.1 u_380.2) := hD
            have et_380 := (pa_no (ix_of (by omega) (Nat.mod_lt _ hl1) rfl) (ix_of (by omega) (Nat.mod_lt _ hr1) rfl) hE q_380).1
            have er_380 := (pa_no (ix_of (by omega) (Nat.mod_lt _ hl1) rfl) (ix_of (by omega) (Nat.mod_lt _ hr1) rfl) hE q_380).2
            rw [et_380] at hP hD
            have hP : va_P D vwCl (HC aI aJ h st u_380.2) H := hP
            have hD : va_D A (HC aI aJ h st u_380.2) := hD
            refine j_topi (y := (-9999004)) er_380 ?_
            refine lv_ldc (v := (-9999004)) hx hb hown L_31 dL_refuses_383 ?_
            refine lv_icmp_ne (tgt := 418) hx hb dL_refuses_385 (by decide) (fun c_385 => ?_) (fun c_385 => ?_)
            · exact absurd rfl c_385
            · clear c_385
              refine lv_aload_n hx hb dL_refuses_388 rfl (lv_at hl 3 rfl) ?_
              refine lv_iload hx hb dL_refuses_389 (lv_at hl 2 rfl) ?_
              refine lv_iload hx hb dL_refuses_391 (lv_at hl 1 rfl) ?_
              refine j_calliM (vx_runSW (As := [.ref (h 0), .int (nI (x % (sNl st))), .int (nI ((x / 12) % (sNr st)))]) (rest := []) C.fix (c_L_inSome l hl0 D aI aJ aZ h st u_380.2 (nI (x % (sNl st))) (nI ((x / 12) % (sNr st))) hi H.size) (vx_cwSW 3 hts gL_refuses_L_inSome rfl rfl rfl (by decide +kernel) ⟨Nat.le_trans (m := 22) (Nat.le_of_ble_eq_true rfl) hRf, Nat.le_trans (m := 600) (Nat.le_of_ble_eq_true rfl) hRl⟩) (jxPreS hXs hA hS hN hK hP hD [0, 1, 2, 3, 4, 5, 6, 7, 8, 9, 10, 11, 12, 13, 14, 15, 16, 17, 18, 19, 20] rfl rfl (by decide)) rfl rfl hl.1 rfl (lv_room (Nat.le_of_ble_eq_true rfl)) dL_refuses_393 ⟨by omega, by omega⟩) hA hP hD hS [0, 1, 2, 3, 4, 5, 6, 7, 8, 9, 10, 11, 12, 13, 14, 15, 16, 17, 18, 19, 20] [] (wr := []) rfl rfl (by decide) (by decide) (fun r_393 u_393 H locs q_393 hP hD hS => ?_)
              have hP : va_P D vwCl (HC aI aJ h st u_393) H := hP
              have hD : va_D A (HC aI aJ h st u_393) := hD
              refine j_topi (y := (-9999004)) (is_no (ix_of (by omega) (Nat.mod_lt _ hl1) rfl) (ix_of (by omega) (Nat.mod_lt _ hr1) rfl) hE q_393) ?_
              refine lv_ldc (v := (-9999004)) hx hb hown L_31 dL_refuses_396 ?_
              refine lv_icmp_ne (tgt := 418) hx hb dL_refuses_398 (by decide) (fun c_398 => ?_) (fun c_398 => ?_)
              · exact absurd rfl c_398
              · clear c_398
                refine lv_aload_n hx hb dL_refuses_401 rfl (lv_at hl 3 rfl) ?_
                refine lv_iload hx hb dL_refuses_402 (lv_at hl 2 rfl) ?_
                refine lv_iload hx hb dL_refuses_404 (lv_at hl 1 rfl) ?_
                refine j_calliM (vx_runSW (As := [.ref (h 0), .int (nI (x % (sNl st))), .int (nI ((x / 12) % (sNr st)))]) (rest := []) C.fix (c_L_inAll l hl0 D aI aJ aZ h st u_393 (nI (x % (sNl st))) (nI ((x / 12) % (sNr st))) hi H.size) (vx_cwSW 3 hts gL_refuses_L_inAll rfl rfl rfl (by decide +kernel) ⟨Nat.le_trans (m := 22) (Nat.le_of_ble_eq_true rfl) hRf, Nat.le_trans (m := 600) (Nat.le_of_ble_eq_true rfl) hRl⟩) (jxPreS hXs hA hS hN hK hP hD [0, 1, 2, 3, 4, 5, 6, 7, 8, 9, 10, 11, 12, 13, 14, 15, 16, 17, 18, 19, 20] rfl rfl (by decide)) rfl rfl hl.1 rfl (lv_room (Nat.le_of_ble_eq_true rfl)) dL_refuses_406 ⟨by omega, by omega⟩) hA hP hD hS [0, 1, 2, 3, 4, 5, 6, 7, 8, 9, 10, 11, 12, 13, 14, 15, 16, 17, 18, 19, 20] [] (wr := []) rfl rfl (by decide) (by decide) (fun r_406 u_406 H locs q_406 hP hD hS => ?_)
                have hP : va_P D vwCl (HC aI aJ h st u_406) H := hP
                have hD : va_D A (HC aI aJ h st u_406) := hD
                refine j_topi (y := (-9999004)) (ia_no (ix_of (by omega) (Nat.mod_lt _ hl1) rfl) (ix_of (by omega) (Nat.mod_lt _ hr1) rfl) hE q_406) ?_
                refine lv_ldc (v := (-9999004)) hx hb hown L_31 dL_refuses_409 ?_
                refine lv_icmp_ne (tgt := 418) hx hb dL_refuses_411 (by decide) (fun c_411 => ?_) (fun c_411 => ?_)
                · exact absurd rfl c_411
                · clear c_411
                  refine lv_iconst (v := nI 1) hx hb dL_refuses_414 (by decide) ?_
                  refine lv_goto (tgt := 419) hx hb dL_refuses_415 (by decide) ?_
                  refine lv_istore (lv' := [(6, .int (nI 1)), (9, .int (nI 0)), (8, .int (nI ((x / 12) % (sNr st)))), (7, .int (nI (x % (sNl st)))), (0, .ref (h 0)), (1, .int (nI x)), (2, .int (nI (sNl st))), (3, .int (nI (sNr st)))]) hx hb dL_refuses_419 hl (by decide) rfl (fun ls hl => ?_)
                  have hl := lv_sub (l' := [(0, .ref (h 0)), (6, .int (nI 1))]) hl [4, 0] rfl
                  exact kk u_406 H _ ls _ _  hP hD hS hl (by omega) (by omega)
          · exact absurd c_351 (by decide)
        · have hE := b2n_1 c_339
          refine lv_iconst (v := nI 1) hx hb dL_refuses_342 (by decide) ?_
          refine lv_goto (tgt := 347) hx hb dL_refuses_343 (by decide) ?_
          refine lv_istore (lv' := [(9, .int (nI 1)), (8, .int (nI ((x / 12) % (sNr st)))), (7, .int (nI (x % (sNl st)))), (0, .ref (h 0)), (1, .int (nI x)), (2, .int (nI (sNl st))), (3, .int (nI (sNr st))), (6, .int (nI 1))]) hx hb dL_refuses_347 hl (by decide) rfl (fun ls hl => ?_)
          refine lv_iload hx hb dL_refuses_349 (lv_at hl 0 rfl) ?_
          refine lv_if_eq (tgt := 375) hx hb dL_refuses_351 (by decide) (fun c_351 => ?_) (fun c_351 => ?_)
          · exact absurd c_351 (by decide)
          · clear c_351
            refine lv_aload_n hx hb dL_refuses_354 rfl (lv_at hl 3 rfl) ?_
            refine lv_iload hx hb dL_refuses_355 (lv_at hl 2 rfl) ?_
            refine lv_iload hx hb dL_refuses_357 (lv_at hl 1 rfl) ?_
            refine j_calliM (vx_runSW (As := [.ref (h 0), .int (nI (x % (sNl st))), .int (nI ((x / 12) % (sNr st)))]) (rest := []) C.fix (c_L_joined l hl0 D aI aJ aZ h st u_335 (nI (x % (sNl st))) (nI ((x / 12) % (sNr st))) hi H.size) (vx_cwSW 3 hts gL_refuses_L_joined rfl rfl rfl (by decide +kernel) ⟨Nat.le_trans (m := 22) (Nat.le_of_ble_eq_true rfl) hRf, Nat.le_trans (m := 600) (Nat.le_of_ble_eq_true rfl) hRl⟩) (jxPreS hXs hA hS hN hK hP hD [0, 1, 2, 3, 4, 5, 6, 7, 8, 9, 10, 11, 12, 13, 14, 15, 16, 17, 18, 19, 20] rfl rfl (by decide)) rfl rfl hl.1 rfl (lv_room (Nat.le_of_ble_eq_true rfl)) dL_refuses_359 ⟨by omega, by omega⟩) hA hP hD hS [0, 1, 2, 3, 4, 5, 6, 7, 8, 9, 10, 11, 12, 13, 14, 15, 16, 17, 18, 19, 20] [] (wr := []) rfl rfl (by decide) (by decide) (fun r_359 u_359 H locs q_359 hP hD hS => ?_)
            have hP : va_P D vwCl (HC aI aJ h u_359.1 u_359.2) H := hP
            have hD : va_D A (HC aI aJ h u_359.1 u_359.2) := hD
            have et_359 := (jo_is (ix_of (by omega) (Nat.mod_lt _ hl1) rfl) (ix_of (by omega) (Nat.mod_lt _ hr1) rfl) hE q_359).1
            have er_359 := (jo_is (ix_of (by omega) (Nat.mod_lt _ hl1) rfl) (ix_of (by omega) (Nat.mod_lt _ hr1) rfl) hE q_359).2
            rw [et_359] at hP hD
            have hP : va_P D vwCl (HC aI aJ h st u_359.2) H := hP
            have hD : va_D A (HC aI aJ h st u_359.2) := hD
            refine j_topi (y := (-9999003)) er_359 ?_
            refine lv_ldc (v := (-9999003)) hx hb hown L_15 dL_refuses_362 ?_
            refine lv_icmp_ne (tgt := 371) hx hb dL_refuses_364 (by decide) (fun c_364 => ?_) (fun c_364 => ?_)
            · exact absurd rfl c_364
            · clear c_364
              refine lv_iconst (v := nI 1) hx hb dL_refuses_367 (by decide) ?_
              refine lv_goto (tgt := 419) hx hb dL_refuses_368 (by decide) ?_
              refine lv_istore (lv' := [(6, .int (nI 1)), (9, .int (nI 1)), (8, .int (nI ((x / 12) % (sNr st)))), (7, .int (nI (x % (sNl st)))), (0, .ref (h 0)), (1, .int (nI x)), (2, .int (nI (sNl st))), (3, .int (nI (sNr st)))]) hx hb dL_refuses_419 hl (by decide) rfl (fun ls hl => ?_)
              have hl := lv_sub (l' := [(0, .ref (h 0)), (6, .int (nI 1))]) hl [4, 0] rfl
              exact kk u_359.2 H _ ls _ _  hP hD hS hl (by omega) (by omega)
end RFS
set_option maxHeartbeats 4000000 in
set_option maxRecDepth 100000 in
theorem c_L_refuses (l : Launch) (hl0 : l.stackTraces = false) (D : va_G) (aI aJ aZ : ClassId) (h : Nat → Nat) (st : St) (j : Jk) (x : Nat) (hi : HI st) (hx1 : x < 10000) (z0 : Nat) : Met l yL_refuses wsL_refuses ({ frames := 22, cells := 53, slots := 318, locals := 600 }) (va_Pc [.ref (h 0), .int (nI x)] (jXI D (jT aI aJ aZ) (HC aI aJ h st j) z0)) (va_Qi (S := Jk) (fun r u => r = nI 1) (fun u t => jO D (jT aI aJ aZ) (va_A (HC aI aJ h st j) z0) (HC aI aJ h st u) t) (va_A (HC aI aJ h st j) z0)) 53 318 (va_A (HC aI aJ h st j) z0) := by
  refine jy_of (Qc := fun A => va_Qi (S := Jk) (fun r u => r = nI 1) (fun u t => jO D (jT aI aJ aZ) A (HC aI aJ h st u) t) A) (own := RL) (nm := "refuses") (by decide +kernel) rfl rfl rfl (Nat.le_of_ble_eq_true rfl) ?_
  intro p e s m below meth c A ls H locs C hXs hP hD hS hl
  have hl : lv_has ls 10 [(0, .ref (h 0)), (1, .int (nI x))] := hl
  have hx2 : x < 2 ^ 31 := by omega
  have hRf : 22 ≤ ({ frames := 22, cells := 53, slots := 318, locals := 600 } : Room).frames := Nat.le_refl _
  have hRl : 600 ≤ ({ frames := 22, cells := 53, slots := 318, locals := 600 } : Room).locals := Nat.le_refl _
  have hRc : 53 ≤ ({ frames := 22, cells := 53, slots := 318, locals := 600 } : Room).cells := Nat.le_refl _
  have hRs : 318 ≤ ({ frames := 22, cells := 53, slots := 318, locals := 600 } : Room).slots := Nat.le_refl _
  revert hRf hRl hRc hRs
  generalize hR : ({ frames := 22, cells := 53, slots := 318, locals := 600 } : Room) = R
  intro hRf hRl hRc hRs
  refine rf_A l hl0 hRf hRl C hXs hi hx2 hP hD hS hl (by omega) (by omega) (fun v w j H locs ls c1 s1 hv hw hP hD hS hl k1 k2 => ?_)
  refine rf_B l hl0 hRf hRl C hXs hi hv hw hP hD hS hl (by omega) (by omega) (fun j H locs ls c2 s2 hP hD hS hl k3 k4 => ?_)
  refine rf_C l hl0 hRf hRl C hXs hi hv hw hP hD hS hl (by omega) (by omega) (fun j H locs ls c3 s3 hP hD hS hl k5 k6 => ?_)
  refine rf_D l hl0 hRf hRl C hXs hi hv hw hP hD hS hl (by omega) (by omega) (fun j H locs ls c4 s4 hP hD hS hl k7 k8 => ?_)
  refine rf_E l hl0 hRf hRl C hXs hi hv hw hx1 hP hD hS hl (by omega) (by omega) (fun j H locs ls c5 s5 hP hD hS hl k9 k10 => ?_)
  have hl := lv_sub (l' := [(0, .ref (h 0)), (1, .int (nI x)), (2, .int (nI (sNl st))), (3, .int (nI (sNr st)))]) hl [0, 1, 2, 3] rfl
  refine rf_F l hl0 hRf hRl C hXs hi hP hD hS hl (by omega) (by omega) (fun j H locs ls c6 s6 hP hD hS hl k11 k12 => ?_)
  refine rf_G l hl0 hRf hRl C hXs hi hx2 hP hD hS hl (by omega) (by omega) (fun j H locs ls c7 s7 hP hD hS hl k13 k14 => ?_)
  subst hR
  obtain ⟨hx, hb, hml, hown, hts, hK, hA, hlocks, hr, hn, hN⟩ := id C
  refine lv_iload hx hb dL_refuses_421 (lv_at hl 1 rfl) ?_
  refine W.widen (k := 53) (n := 318) (by omega) (by omega) ?_
  exact j_zret (w1 := fun u => HC aI aJ h st u) (post := fun r u => r = nI 1) C j true rfl hP hD hS rfl dL_refuses_423
