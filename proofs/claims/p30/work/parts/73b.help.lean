/-! the law's helpers -/
abbrev hP_ofLeft (st : St) (x : Int32) (r : Int32) : Prop := (∃ ii : Nat, ∃ vv : Nat, (ix (sNl st) x = some ii) ∧ ((sL st) ii = some vv) ∧ r = nI vv) ∨ ((ix (sNl st) x = none) ∧ r = (-9999001)) ∨ ((∃ ii, ix (sNl st) x = some ii ∧ (sL st) ii = none) ∧ r = (-9999004))
set_option maxHeartbeats 4000000 in
set_option maxRecDepth 100000 in
theorem c_L_ofLeft (l : Launch) (hl0 : l.stackTraces = false) (D : va_G) (aI aJ aZ : ClassId) (h : Nat → Nat) (st : St) (j : Jk) (x : Int32) (hi : HI st) (z0 : Nat) : Met l yL_ofLeft wsL_ofLeft ({ frames := 8, cells := 2, slots := 12, locals := 125 }) (va_Pc [.ref (h 0), .int x] (jXI D (jT aI aJ aZ) (HC aI aJ h st j) z0)) (va_Qi (S := Jk) (fun r u => hP_ofLeft st x r) (fun u t => jO D (jT aI aJ aZ) (va_A (HC aI aJ h st j) z0) (HC aI aJ h st u) t) (va_A (HC aI aJ h st j) z0)) 2 12 (va_A (HC aI aJ h st j) z0) := by
  refine jh_of (Qc := fun A => va_Qi (S := Jk) (fun r u => hP_ofLeft st x r) (fun u t => jO D (jT aI aJ aZ) A (HC aI aJ h st u) t) A) (hh := [(0, 5, 6, 23), (0, 5, 10, 29)]) (own := RL) (nm := "ofLeft") (by decide +kernel) rfl rfl rfl (Nat.le_of_ble_eq_true rfl) ?_
  intro p e s m below meth c A ls H locs C hXs hTab hP hD hS hl
  obtain ⟨hx, hb, hml, hown, hts, hK, hA, hlocks, hr, hn, hN⟩ := id C
  have L_23 := hts (.classLink RL 23 "java/lang/IndexOutOfBoundsException") (List.mem_of_getElem? (i := 1) rfl)
  have L_25 := hts (.constant RL 25 (-9999001)) (List.mem_of_getElem? (i := 3) rfl)
  have L_29 := hts (.classLink RL 29 "java/util/NoSuchElementException") (List.mem_of_getElem? (i := 2) rfl)
  have L_31 := hts (.constant RL 31 (-9999004)) (List.mem_of_getElem? (i := 4) rfl)
  have hl : lv_has ls 3 [(0, .ref (h 0)), (1, .int x)] := hl
  refine lv_aload_n hx hb dL_ofLeft_0 rfl (lv_at hl 0 rfl) ?_
  refine lv_iload_n hx hb dL_ofLeft_1 rfl (lv_at hl 1 rfl) ?_
  refine jx_calli (vx_runV (As := [.int x]) (rest := []) C.fix (k_partnerOfLeft l hl0 D aI aJ aZ h st j x hi H.size) (cwV 1 hts gL_ofLeft_X6_partnerOfLeft rfl rfl rfl (by decide +kernel) ⟨Nat.le_of_ble_eq_true rfl, Nat.le_of_ble_eq_true rfl⟩) (jxPreV hXs hA hS hN hK hP hD [0, 1, 2, 3, 4, 5, 6, 7, 8, 9, 10, 11, 12, 13, 14, 15, 16, 17, 18, 19, 20] rfl rfl (by decide) (ci := 6) (q0 := 0) rfl rfl) rfl rfl hl.1 rfl (lv_room (Nat.le_of_ble_eq_true rfl)) dL_ofLeft_2 ⟨Nat.le_of_ble_eq_true rfl, Nat.le_of_ble_eq_true rfl⟩) hA hP hD hS [0, 1, 2, 3, 4, 5, 6, 7, 8, 9, 10, 11, 12, 13, 14, 15, 16, 17, 18, 19, 20] [] (wr := []) rfl rfl (by decide) (by decide) (fun ux E9 q9 ce H locs xp hce hcv hcl hP hD hS => ?_) (fun r_3 u_3 H locs q_3 hP hD hS => ?_)
  · have hP : va_P D vwCl (HC aI aJ h st ux) H := hP
    have hD : va_D A (HC aI aJ h st ux) := hD
    have xp : (E9 = "java/lang/IndexOutOfBoundsException" ∧ (ix (sNl st) x = none)) ∨ (E9 = "java/util/NoSuchElementException" ∧ (∃ ii, ix (sNl st) x = some ii ∧ (sL st) ii = none)) := xp
    rcases xp with xp | xp
    · obtain ⟨rfl, xq⟩ := xp
      refine jh_catch0 (h0 := (0, 5, 6, 23)) hown hTab (by decide +kernel) (by decide) L_23 (hXs.1 _ (by decide)) hce hcv hcl ?_
      refine lv_astore_n (lv' := [(2, .ref q9), (0, .ref (h 0)), (1, .int x)]) hx hb dL_ofLeft_6 rfl hl (by decide) rfl (fun ls hl => ?_)
      refine lv_ldc (v := -9999001) hx hb hown L_25 dL_ofLeft_7 ?_
      refine W.widen (k := 2) (n := 12) (Nat.le_of_ble_eq_true rfl) (Nat.le_of_ble_eq_true rfl) ?_
      exact j_iret (w1 := fun u => HC aI aJ h st u) (post := fun r u => hP_ofLeft st x r) C ux hP hD hS (Or.inr (Or.inl ⟨xq, rfl⟩)) dL_ofLeft_9
    · obtain ⟨rfl, xq⟩ := xp
      refine jh_catch1 (n0 := "java/lang/IndexOutOfBoundsException") (h0 := (0, 5, 6, 23)) (h1 := (0, 5, 10, 29)) hown hTab (by decide +kernel) (by decide) (by decide) L_23 (hXs.2.2.2.1 (_, _) (by decide)) L_29 (hXs.1 _ (by decide)) hce hcv hcl ?_
      refine lv_astore_n (lv' := [(2, .ref q9), (0, .ref (h 0)), (1, .int x)]) hx hb dL_ofLeft_10 rfl hl (by decide) rfl (fun ls hl => ?_)
      refine lv_ldc (v := -9999004) hx hb hown L_31 dL_ofLeft_11 ?_
      refine W.widen (k := 2) (n := 12) (Nat.le_of_ble_eq_true rfl) (Nat.le_of_ble_eq_true rfl) ?_
      exact j_iret (w1 := fun u => HC aI aJ h st u) (post := fun r u => hP_ofLeft st x r) C ux hP hD hS (Or.inr (Or.inr (⟨xq, rfl⟩))) dL_ofLeft_13
  · have hP : va_P D vwCl (HC aI aJ h st u_3) H := hP
    have hD : va_D A (HC aI aJ h st u_3) := hD
    obtain ⟨ii_3, vv_3, p0_3, p1_3, rfl⟩ := q_3
    refine W.widen (k := 2) (n := 12) (Nat.le_of_ble_eq_true rfl) (Nat.le_of_ble_eq_true rfl) ?_
    exact j_iret (w1 := fun u => HC aI aJ h st u) (post := fun r u => hP_ofLeft st x r) C u_3 hP hD hS (Or.inl ⟨ii_3, vv_3, p0_3, p1_3, rfl⟩) dL_ofLeft_5
abbrev hP_ofRight (st : St) (x : Int32) (r : Int32) : Prop := (∃ ii : Nat, ∃ vv : Nat, (ix (sNr st) x = some ii) ∧ ((sR st) ii = some vv) ∧ r = nI vv) ∨ ((ix (sNr st) x = none) ∧ r = (-9999001)) ∨ ((∃ ii, ix (sNr st) x = some ii ∧ (sR st) ii = none) ∧ r = (-9999004))
set_option maxHeartbeats 4000000 in
set_option maxRecDepth 100000 in
theorem c_L_ofRight (l : Launch) (hl0 : l.stackTraces = false) (D : va_G) (aI aJ aZ : ClassId) (h : Nat → Nat) (st : St) (j : Jk) (x : Int32) (hi : HI st) (z0 : Nat) : Met l yL_ofRight wsL_ofRight ({ frames := 8, cells := 2, slots := 12, locals := 125 }) (va_Pc [.ref (h 0), .int x] (jXI D (jT aI aJ aZ) (HC aI aJ h st j) z0)) (va_Qi (S := Jk) (fun r u => hP_ofRight st x r) (fun u t => jO D (jT aI aJ aZ) (va_A (HC aI aJ h st j) z0) (HC aI aJ h st u) t) (va_A (HC aI aJ h st j) z0)) 2 12 (va_A (HC aI aJ h st j) z0) := by
  refine jh_of (Qc := fun A => va_Qi (S := Jk) (fun r u => hP_ofRight st x r) (fun u t => jO D (jT aI aJ aZ) A (HC aI aJ h st u) t) A) (hh := [(0, 5, 6, 23), (0, 5, 10, 29)]) (own := RL) (nm := "ofRight") (by decide +kernel) rfl rfl rfl (Nat.le_of_ble_eq_true rfl) ?_
  intro p e s m below meth c A ls H locs C hXs hTab hP hD hS hl
  obtain ⟨hx, hb, hml, hown, hts, hK, hA, hlocks, hr, hn, hN⟩ := id C
  have L_23 := hts (.classLink RL 23 "java/lang/IndexOutOfBoundsException") (List.mem_of_getElem? (i := 1) rfl)
  have L_25 := hts (.constant RL 25 (-9999001)) (List.mem_of_getElem? (i := 3) rfl)
  have L_29 := hts (.classLink RL 29 "java/util/NoSuchElementException") (List.mem_of_getElem? (i := 2) rfl)
  have L_31 := hts (.constant RL 31 (-9999004)) (List.mem_of_getElem? (i := 4) rfl)
  have hl : lv_has ls 3 [(0, .ref (h 0)), (1, .int x)] := hl
  refine lv_aload_n hx hb dL_ofRight_0 rfl (lv_at hl 0 rfl) ?_
  refine lv_iload_n hx hb dL_ofRight_1 rfl (lv_at hl 1 rfl) ?_
  refine jx_calli (vx_runV (As := [.int x]) (rest := []) C.fix (k_partnerOfRight l hl0 D aI aJ aZ h st j x hi H.size) (cwV 1 hts gL_ofRight_X6_partnerOfRight rfl rfl rfl (by decide +kernel) ⟨Nat.le_of_ble_eq_true rfl, Nat.le_of_ble_eq_true rfl⟩) (jxPreV hXs hA hS hN hK hP hD [0, 1, 2, 3, 4, 5, 6, 7, 8, 9, 10, 11, 12, 13, 14, 15, 16, 17, 18, 19, 20] rfl rfl (by decide) (ci := 6) (q0 := 0) rfl rfl) rfl rfl hl.1 rfl (lv_room (Nat.le_of_ble_eq_true rfl)) dL_ofRight_2 ⟨Nat.le_of_ble_eq_true rfl, Nat.le_of_ble_eq_true rfl⟩) hA hP hD hS [0, 1, 2, 3, 4, 5, 6, 7, 8, 9, 10, 11, 12, 13, 14, 15, 16, 17, 18, 19, 20] [] (wr := []) rfl rfl (by decide) (by decide) (fun ux E9 q9 ce H locs xp hce hcv hcl hP hD hS => ?_) (fun r_3 u_3 H locs q_3 hP hD hS => ?_)
  · have hP : va_P D vwCl (HC aI aJ h st ux) H := hP
    have hD : va_D A (HC aI aJ h st ux) := hD
    have xp : (E9 = "java/lang/IndexOutOfBoundsException" ∧ (ix (sNr st) x = none)) ∨ (E9 = "java/util/NoSuchElementException" ∧ (∃ ii, ix (sNr st) x = some ii ∧ (sR st) ii = none)) := xp
    rcases xp with xp | xp
    · obtain ⟨rfl, xq⟩ := xp
      refine jh_catch0 (h0 := (0, 5, 6, 23)) hown hTab (by decide +kernel) (by decide) L_23 (hXs.1 _ (by decide)) hce hcv hcl ?_
      refine lv_astore_n (lv' := [(2, .ref q9), (0, .ref (h 0)), (1, .int x)]) hx hb dL_ofRight_6 rfl hl (by decide) rfl (fun ls hl => ?_)
      refine lv_ldc (v := -9999001) hx hb hown L_25 dL_ofRight_7 ?_
      refine W.widen (k := 2) (n := 12) (Nat.le_of_ble_eq_true rfl) (Nat.le_of_ble_eq_true rfl) ?_
      exact j_iret (w1 := fun u => HC aI aJ h st u) (post := fun r u => hP_ofRight st x r) C ux hP hD hS (Or.inr (Or.inl ⟨xq, rfl⟩)) dL_ofRight_9
    · obtain ⟨rfl, xq⟩ := xp
      refine jh_catch1 (n0 := "java/lang/IndexOutOfBoundsException") (h0 := (0, 5, 6, 23)) (h1 := (0, 5, 10, 29)) hown hTab (by decide +kernel) (by decide) (by decide) L_23 (hXs.2.2.2.1 (_, _) (by decide)) L_29 (hXs.1 _ (by decide)) hce hcv hcl ?_
      refine lv_astore_n (lv' := [(2, .ref q9), (0, .ref (h 0)), (1, .int x)]) hx hb dL_ofRight_10 rfl hl (by decide) rfl (fun ls hl => ?_)
      refine lv_ldc (v := -9999004) hx hb hown L_31 dL_ofRight_11 ?_
      refine W.widen (k := 2) (n := 12) (Nat.le_of_ble_eq_true rfl) (Nat.le_of_ble_eq_true rfl) ?_
      exact j_iret (w1 := fun u => HC aI aJ h st u) (post := fun r u => hP_ofRight st x r) C ux hP hD hS (Or.inr (Or.inr (⟨xq, rfl⟩))) dL_ofRight_13
  · have hP : va_P D vwCl (HC aI aJ h st u_3) H := hP
    have hD : va_D A (HC aI aJ h st u_3) := hD
    obtain ⟨ii_3, vv_3, p0_3, p1_3, rfl⟩ := q_3
    refine W.widen (k := 2) (n := 12) (Nat.le_of_ble_eq_true rfl) (Nat.le_of_ble_eq_true rfl) ?_
    exact j_iret (w1 := fun u => HC aI aJ h st u) (post := fun r u => hP_ofRight st x r) C u_3 hP hD hS (Or.inl ⟨ii_3, vv_3, p0_3, p1_3, rfl⟩) dL_ofRight_5
abbrev hP_depth (st : St) (x : Int32) (r : Int32) : Prop := (∃ ii : Nat, (ix (phC (sE st) (sNl st) (sNr st)) x = some ii) ∧ r = nI (dpt (sE st) (sNl st) (sNr st) ii)) ∨ ((ix (phC (sE st) (sNl st) (sNr st)) x = none) ∧ r = (-9999001))
set_option maxHeartbeats 4000000 in
set_option maxRecDepth 100000 in
theorem c_L_depth (l : Launch) (hl0 : l.stackTraces = false) (D : va_G) (aI aJ aZ : ClassId) (h : Nat → Nat) (st : St) (j : Jk) (x : Int32) (hi : HI st) (z0 : Nat) : Met l yL_depth wsL_depth ({ frames := 21, cells := 1, slots := 6, locals := 536 }) (va_Pc [.ref (h 0), .int x] (jXI D (jT aI aJ aZ) (HC aI aJ h st j) z0)) (va_Qi (S := Jk) (fun r u => hP_depth st x r) (fun u t => jO D (jT aI aJ aZ) (va_A (HC aI aJ h st j) z0) (HC aI aJ h st u) t) (va_A (HC aI aJ h st j) z0)) 1 6 (va_A (HC aI aJ h st j) z0) := by
  refine jh_of (Qc := fun A => va_Qi (S := Jk) (fun r u => hP_depth st x r) (fun u t => jO D (jT aI aJ aZ) A (HC aI aJ h st u) t) A) (hh := [(0, 5, 6, 23)]) (own := RL) (nm := "depth") (by decide +kernel) rfl rfl rfl (Nat.le_of_ble_eq_true rfl) ?_
  intro p e s m below meth c A ls H locs C hXs hTab hP hD hS hl
  obtain ⟨hx, hb, hml, hown, hts, hK, hA, hlocks, hr, hn, hN⟩ := id C
  have L_23 := hts (.classLink RL 23 "java/lang/IndexOutOfBoundsException") (List.mem_of_getElem? (i := 1) rfl)
  have L_25 := hts (.constant RL 25 (-9999001)) (List.mem_of_getElem? (i := 2) rfl)
  have hl : lv_has ls 3 [(0, .ref (h 0)), (1, .int x)] := hl
  refine lv_aload_n hx hb dL_depth_0 rfl (lv_at hl 0 rfl) ?_
  refine lv_iload_n hx hb dL_depth_1 rfl (lv_at hl 1 rfl) ?_
  refine jx_calli (vx_runV (As := [.int x]) (rest := []) C.fix (k_depthOf l hl0 D aI aJ aZ h st j x hi H.size) (cwV 1 hts gL_depth_X6_depthOf rfl rfl rfl (by decide +kernel) ⟨Nat.le_of_ble_eq_true rfl, Nat.le_of_ble_eq_true rfl⟩) (jxPreV hXs hA hS hN hK hP hD [0, 1, 2, 3, 4, 5, 6, 7, 8, 9, 10, 11, 12, 13, 14, 15, 16, 17, 18, 19, 20] rfl rfl (by decide) (ci := 6) (q0 := 0) rfl rfl) rfl rfl hl.1 rfl (lv_room (Nat.le_of_ble_eq_true rfl)) dL_depth_2 ⟨Nat.le_of_ble_eq_true rfl, Nat.le_of_ble_eq_true rfl⟩) hA hP hD hS [0, 1, 2, 3, 4, 5, 6, 7, 8, 9, 10, 11, 12, 13, 14, 15, 16, 17, 18, 19, 20] [] (wr := []) rfl rfl (by decide) (by decide) (fun ux E9 q9 ce H locs xp hce hcv hcl hP hD hS => ?_) (fun r_3 u_3 H locs q_3 hP hD hS => ?_)
  · have hP : va_P D vwCl (HC aI aJ h st ux) H := hP
    have hD : va_D A (HC aI aJ h st ux) := hD
    have xp : (E9 = "java/lang/IndexOutOfBoundsException" ∧ (ix (phC (sE st) (sNl st) (sNr st)) x = none)) := xp
    obtain ⟨rfl, xq⟩ := xp
    refine jh_catch0 (h0 := (0, 5, 6, 23)) hown hTab (by decide +kernel) (by decide) L_23 (hXs.1 _ (by decide)) hce hcv hcl ?_
    refine lv_astore_n (lv' := [(2, .ref q9), (0, .ref (h 0)), (1, .int x)]) hx hb dL_depth_6 rfl hl (by decide) rfl (fun ls hl => ?_)
    refine lv_ldc (v := -9999001) hx hb hown L_25 dL_depth_7 ?_
    refine W.widen (k := 1) (n := 6) (Nat.le_of_ble_eq_true rfl) (Nat.le_of_ble_eq_true rfl) ?_
    exact j_iret (w1 := fun u => HC aI aJ h st u) (post := fun r u => hP_depth st x r) C ux hP hD hS (Or.inr (⟨xq, rfl⟩)) dL_depth_9
  · have hP : va_P D vwCl (HC aI aJ h st u_3) H := hP
    have hD : va_D A (HC aI aJ h st u_3) := hD
    obtain ⟨ii_3, p0_3, rfl⟩ := q_3
    refine W.widen (k := 1) (n := 6) (Nat.le_of_ble_eq_true rfl) (Nat.le_of_ble_eq_true rfl) ?_
    exact j_iret (w1 := fun u => HC aI aJ h st u) (post := fun r u => hP_depth st x r) C u_3 hP hD hS (Or.inl ⟨ii_3, p0_3, rfl⟩) dL_depth_5
abbrev hP_paths (st : St) (x : Int32) (r : Int32) : Prop := (∃ ii : Nat, (ix (phC (sE st) (sNl st) (sNr st)) x = some ii) ∧ r = nI (pth (sE st) (sNl st) (sNr st) ii)) ∨ ((ix (phC (sE st) (sNl st) (sNr st)) x = none) ∧ r = (-9999001))
set_option maxHeartbeats 4000000 in
set_option maxRecDepth 100000 in
theorem c_L_paths (l : Launch) (hl0 : l.stackTraces = false) (D : va_G) (aI aJ aZ : ClassId) (h : Nat → Nat) (st : St) (j : Jk) (x : Int32) (hi : HI st) (z0 : Nat) : Met l yL_paths wsL_paths ({ frames := 21, cells := 1, slots := 6, locals := 536 }) (va_Pc [.ref (h 0), .int x] (jXI D (jT aI aJ aZ) (HC aI aJ h st j) z0)) (va_Qi (S := Jk) (fun r u => hP_paths st x r) (fun u t => jO D (jT aI aJ aZ) (va_A (HC aI aJ h st j) z0) (HC aI aJ h st u) t) (va_A (HC aI aJ h st j) z0)) 1 6 (va_A (HC aI aJ h st j) z0) := by
  refine jh_of (Qc := fun A => va_Qi (S := Jk) (fun r u => hP_paths st x r) (fun u t => jO D (jT aI aJ aZ) A (HC aI aJ h st u) t) A) (hh := [(0, 5, 6, 23)]) (own := RL) (nm := "paths") (by decide +kernel) rfl rfl rfl (Nat.le_of_ble_eq_true rfl) ?_
  intro p e s m below meth c A ls H locs C hXs hTab hP hD hS hl
  obtain ⟨hx, hb, hml, hown, hts, hK, hA, hlocks, hr, hn, hN⟩ := id C
  have L_23 := hts (.classLink RL 23 "java/lang/IndexOutOfBoundsException") (List.mem_of_getElem? (i := 1) rfl)
  have L_25 := hts (.constant RL 25 (-9999001)) (List.mem_of_getElem? (i := 2) rfl)
  have hl : lv_has ls 3 [(0, .ref (h 0)), (1, .int x)] := hl
  refine lv_aload_n hx hb dL_paths_0 rfl (lv_at hl 0 rfl) ?_
  refine lv_iload_n hx hb dL_paths_1 rfl (lv_at hl 1 rfl) ?_
  refine jx_calli (vx_runV (As := [.int x]) (rest := []) C.fix (k_pathsOf l hl0 D aI aJ aZ h st j x hi H.size) (cwV 1 hts gL_paths_X6_pathsOf rfl rfl rfl (by decide +kernel) ⟨Nat.le_of_ble_eq_true rfl, Nat.le_of_ble_eq_true rfl⟩) (jxPreV hXs hA hS hN hK hP hD [0, 1, 2, 3, 4, 5, 6, 7, 8, 9, 10, 11, 12, 13, 14, 15, 16, 17, 18, 19, 20] rfl rfl (by decide) (ci := 6) (q0 := 0) rfl rfl) rfl rfl hl.1 rfl (lv_room (Nat.le_of_ble_eq_true rfl)) dL_paths_2 ⟨Nat.le_of_ble_eq_true rfl, Nat.le_of_ble_eq_true rfl⟩) hA hP hD hS [0, 1, 2, 3, 4, 5, 6, 7, 8, 9, 10, 11, 12, 13, 14, 15, 16, 17, 18, 19, 20] [] (wr := []) rfl rfl (by decide) (by decide) (fun ux E9 q9 ce H locs xp hce hcv hcl hP hD hS => ?_) (fun r_3 u_3 H locs q_3 hP hD hS => ?_)
  · have hP : va_P D vwCl (HC aI aJ h st ux) H := hP
    have hD : va_D A (HC aI aJ h st ux) := hD
    have xp : (E9 = "java/lang/IndexOutOfBoundsException" ∧ (ix (phC (sE st) (sNl st) (sNr st)) x = none)) := xp
    obtain ⟨rfl, xq⟩ := xp
    refine jh_catch0 (h0 := (0, 5, 6, 23)) hown hTab (by decide +kernel) (by decide) L_23 (hXs.1 _ (by decide)) hce hcv hcl ?_
    refine lv_astore_n (lv' := [(2, .ref q9), (0, .ref (h 0)), (1, .int x)]) hx hb dL_paths_6 rfl hl (by decide) rfl (fun ls hl => ?_)
    refine lv_ldc (v := -9999001) hx hb hown L_25 dL_paths_7 ?_
    refine W.widen (k := 1) (n := 6) (Nat.le_of_ble_eq_true rfl) (Nat.le_of_ble_eq_true rfl) ?_
    exact j_iret (w1 := fun u => HC aI aJ h st u) (post := fun r u => hP_paths st x r) C ux hP hD hS (Or.inr (⟨xq, rfl⟩)) dL_paths_9
  · have hP : va_P D vwCl (HC aI aJ h st u_3) H := hP
    have hD : va_D A (HC aI aJ h st u_3) := hD
    obtain ⟨ii_3, p0_3, rfl⟩ := q_3
    refine W.widen (k := 1) (n := 6) (Nat.le_of_ble_eq_true rfl) (Nat.le_of_ble_eq_true rfl) ?_
    exact j_iret (w1 := fun u => HC aI aJ h st u) (post := fun r u => hP_paths st x r) C u_3 hP hD hS (Or.inl ⟨ii_3, p0_3, rfl⟩) dL_paths_5
abbrev hP_leftPart (st : St) (x : Int32) (r : Int32) : Prop := (∃ ii : Nat, (ix (sNl st) x = some ii) ∧ r = nI (pL (sE st) (sL st) (sR st) (sNl st) (sNr st) ii)) ∨ ((ix (sNl st) x = none) ∧ r = (-9999001))
set_option maxHeartbeats 4000000 in
set_option maxRecDepth 100000 in
theorem c_L_leftPart (l : Launch) (hl0 : l.stackTraces = false) (D : va_G) (aI aJ aZ : ClassId) (h : Nat → Nat) (st : St) (j : Jk) (x : Int32) (hi : HI st) (z0 : Nat) : Met l yL_leftPart wsL_leftPart ({ frames := 8, cells := 1, slots := 6, locals := 124 }) (va_Pc [.ref (h 0), .int x] (jXI D (jT aI aJ aZ) (HC aI aJ h st j) z0)) (va_Qi (S := Jk) (fun r u => hP_leftPart st x r) (fun u t => jO D (jT aI aJ aZ) (va_A (HC aI aJ h st j) z0) (HC aI aJ h st u) t) (va_A (HC aI aJ h st j) z0)) 1 6 (va_A (HC aI aJ h st j) z0) := by
  refine jh_of (Qc := fun A => va_Qi (S := Jk) (fun r u => hP_leftPart st x r) (fun u t => jO D (jT aI aJ aZ) A (HC aI aJ h st u) t) A) (hh := [(0, 5, 6, 23)]) (own := RL) (nm := "leftPart") (by decide +kernel) rfl rfl rfl (Nat.le_of_ble_eq_true rfl) ?_
  intro p e s m below meth c A ls H locs C hXs hTab hP hD hS hl
  obtain ⟨hx, hb, hml, hown, hts, hK, hA, hlocks, hr, hn, hN⟩ := id C
  have L_23 := hts (.classLink RL 23 "java/lang/IndexOutOfBoundsException") (List.mem_of_getElem? (i := 1) rfl)
  have L_25 := hts (.constant RL 25 (-9999001)) (List.mem_of_getElem? (i := 2) rfl)
  have hl : lv_has ls 3 [(0, .ref (h 0)), (1, .int x)] := hl
  refine lv_aload_n hx hb dL_leftPart_0 rfl (lv_at hl 0 rfl) ?_
  refine lv_iload_n hx hb dL_leftPart_1 rfl (lv_at hl 1 rfl) ?_
  refine jx_calli (vx_runV (As := [.int x]) (rest := []) C.fix (k_partOfLeft l hl0 D aI aJ aZ h st j x hi H.size) (cwV 1 hts gL_leftPart_X6_partOfLeft rfl rfl rfl (by decide +kernel) ⟨Nat.le_of_ble_eq_true rfl, Nat.le_of_ble_eq_true rfl⟩) (jxPreV hXs hA hS hN hK hP hD [0, 1, 2, 3, 4, 5, 6, 7, 8, 9, 10, 11, 12, 13, 14, 15, 16, 17, 18, 19, 20] rfl rfl (by decide) (ci := 6) (q0 := 0) rfl rfl) rfl rfl hl.1 rfl (lv_room (Nat.le_of_ble_eq_true rfl)) dL_leftPart_2 ⟨Nat.le_of_ble_eq_true rfl, Nat.le_of_ble_eq_true rfl⟩) hA hP hD hS [0, 1, 2, 3, 4, 5, 6, 7, 8, 9, 10, 11, 12, 13, 14, 15, 16, 17, 18, 19, 20] [] (wr := []) rfl rfl (by decide) (by decide) (fun ux E9 q9 ce H locs xp hce hcv hcl hP hD hS => ?_) (fun r_3 u_3 H locs q_3 hP hD hS => ?_)
  · have hP : va_P D vwCl (HC aI aJ h st ux) H := hP
    have hD : va_D A (HC aI aJ h st ux) := hD
    have xp : (E9 = "java/lang/IndexOutOfBoundsException" ∧ (ix (sNl st) x = none)) := xp
    obtain ⟨rfl, xq⟩ := xp
    refine jh_catch0 (h0 := (0, 5, 6, 23)) hown hTab (by decide +kernel) (by decide) L_23 (hXs.1 _ (by decide)) hce hcv hcl ?_
    refine lv_astore_n (lv' := [(2, .ref q9), (0, .ref (h 0)), (1, .int x)]) hx hb dL_leftPart_6 rfl hl (by decide) rfl (fun ls hl => ?_)
    refine lv_ldc (v := -9999001) hx hb hown L_25 dL_leftPart_7 ?_
    refine W.widen (k := 1) (n := 6) (Nat.le_of_ble_eq_true rfl) (Nat.le_of_ble_eq_true rfl) ?_
    exact j_iret (w1 := fun u => HC aI aJ h st u) (post := fun r u => hP_leftPart st x r) C ux hP hD hS (Or.inr (⟨xq, rfl⟩)) dL_leftPart_9
  · have hP : va_P D vwCl (HC aI aJ h st u_3) H := hP
    have hD : va_D A (HC aI aJ h st u_3) := hD
    obtain ⟨ii_3, p0_3, rfl⟩ := q_3
    refine W.widen (k := 1) (n := 6) (Nat.le_of_ble_eq_true rfl) (Nat.le_of_ble_eq_true rfl) ?_
    exact j_iret (w1 := fun u => HC aI aJ h st u) (post := fun r u => hP_leftPart st x r) C u_3 hP hD hS (Or.inl ⟨ii_3, p0_3, rfl⟩) dL_leftPart_5
abbrev hP_rightPart (st : St) (x : Int32) (r : Int32) : Prop := (∃ ii : Nat, (ix (sNr st) x = some ii) ∧ r = nI (pR (sE st) (sL st) (sR st) (sNl st) (sNr st) ii)) ∨ ((ix (sNr st) x = none) ∧ r = (-9999001))
set_option maxHeartbeats 4000000 in
set_option maxRecDepth 100000 in
theorem c_L_rightPart (l : Launch) (hl0 : l.stackTraces = false) (D : va_G) (aI aJ aZ : ClassId) (h : Nat → Nat) (st : St) (j : Jk) (x : Int32) (hi : HI st) (z0 : Nat) : Met l yL_rightPart wsL_rightPart ({ frames := 8, cells := 1, slots := 6, locals := 124 }) (va_Pc [.ref (h 0), .int x] (jXI D (jT aI aJ aZ) (HC aI aJ h st j) z0)) (va_Qi (S := Jk) (fun r u => hP_rightPart st x r) (fun u t => jO D (jT aI aJ aZ) (va_A (HC aI aJ h st j) z0) (HC aI aJ h st u) t) (va_A (HC aI aJ h st j) z0)) 1 6 (va_A (HC aI aJ h st j) z0) := by
  refine jh_of (Qc := fun A => va_Qi (S := Jk) (fun r u => hP_rightPart st x r) (fun u t => jO D (jT aI aJ aZ) A (HC aI aJ h st u) t) A) (hh := [(0, 5, 6, 23)]) (own := RL) (nm := "rightPart") (by decide +kernel) rfl rfl rfl (Nat.le_of_ble_eq_true rfl) ?_
  intro p e s m below meth c A ls H locs C hXs hTab hP hD hS hl
  obtain ⟨hx, hb, hml, hown, hts, hK, hA, hlocks, hr, hn, hN⟩ := id C
  have L_23 := hts (.classLink RL 23 "java/lang/IndexOutOfBoundsException") (List.mem_of_getElem? (i := 1) rfl)
  have L_25 := hts (.constant RL 25 (-9999001)) (List.mem_of_getElem? (i := 2) rfl)
  have hl : lv_has ls 3 [(0, .ref (h 0)), (1, .int x)] := hl
  refine lv_aload_n hx hb dL_rightPart_0 rfl (lv_at hl 0 rfl) ?_
  refine lv_iload_n hx hb dL_rightPart_1 rfl (lv_at hl 1 rfl) ?_
  refine jx_calli (vx_runV (As := [.int x]) (rest := []) C.fix (k_partOfRight l hl0 D aI aJ aZ h st j x hi H.size) (cwV 1 hts gL_rightPart_X6_partOfRight rfl rfl rfl (by decide +kernel) ⟨Nat.le_of_ble_eq_true rfl, Nat.le_of_ble_eq_true rfl⟩) (jxPreV hXs hA hS hN hK hP hD [0, 1, 2, 3, 4, 5, 6, 7, 8, 9, 10, 11, 12, 13, 14, 15, 16, 17, 18, 19, 20] rfl rfl (by decide) (ci := 6) (q0 := 0) rfl rfl) rfl rfl hl.1 rfl (lv_room (Nat.le_of_ble_eq_true rfl)) dL_rightPart_2 ⟨Nat.le_of_ble_eq_true rfl, Nat.le_of_ble_eq_true rfl⟩) hA hP hD hS [0, 1, 2, 3, 4, 5, 6, 7, 8, 9, 10, 11, 12, 13, 14, 15, 16, 17, 18, 19, 20] [] (wr := []) rfl rfl (by decide) (by decide) (fun ux E9 q9 ce H locs xp hce hcv hcl hP hD hS => ?_) (fun r_3 u_3 H locs q_3 hP hD hS => ?_)
  · have hP : va_P D vwCl (HC aI aJ h st ux) H := hP
    have hD : va_D A (HC aI aJ h st ux) := hD
    have xp : (E9 = "java/lang/IndexOutOfBoundsException" ∧ (ix (sNr st) x = none)) := xp
    obtain ⟨rfl, xq⟩ := xp
    refine jh_catch0 (h0 := (0, 5, 6, 23)) hown hTab (by decide +kernel) (by decide) L_23 (hXs.1 _ (by decide)) hce hcv hcl ?_
    refine lv_astore_n (lv' := [(2, .ref q9), (0, .ref (h 0)), (1, .int x)]) hx hb dL_rightPart_6 rfl hl (by decide) rfl (fun ls hl => ?_)
    refine lv_ldc (v := -9999001) hx hb hown L_25 dL_rightPart_7 ?_
    refine W.widen (k := 1) (n := 6) (Nat.le_of_ble_eq_true rfl) (Nat.le_of_ble_eq_true rfl) ?_
    exact j_iret (w1 := fun u => HC aI aJ h st u) (post := fun r u => hP_rightPart st x r) C ux hP hD hS (Or.inr (⟨xq, rfl⟩)) dL_rightPart_9
  · have hP : va_P D vwCl (HC aI aJ h st u_3) H := hP
    have hD : va_D A (HC aI aJ h st u_3) := hD
    obtain ⟨ii_3, p0_3, rfl⟩ := q_3
    refine W.widen (k := 1) (n := 6) (Nat.le_of_ble_eq_true rfl) (Nat.le_of_ble_eq_true rfl) ?_
    exact j_iret (w1 := fun u => HC aI aJ h st u) (post := fun r u => hP_rightPart st x r) C u_3 hP hD hS (Or.inl ⟨ii_3, p0_3, rfl⟩) dL_rightPart_5
