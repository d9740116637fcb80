/-! the law's helpers -/
abbrev hP_finePart (st : St) (x : Int32) (r : Int32) : Prop := (∃ ii : Nat, (ix (sNl st) x = some ii) ∧ (pL (sE st) (sL st) (sR st) (sNl st) (sNr st) ii = 1) ∧ r = oI (lw 12 (fns (sE st) (sL st) (sR st) (sNl st) (sNr st) ii))) ∨ ((ix (sNl st) x = none) ∧ r = (-9999001)) ∨ ((∃ ii, ix (sNl st) x = some ii ∧ ¬ pL (sE st) (sL st) (sR st) (sNl st) (sNr st) ii = 1) ∧ r = (-9999004))
set_option maxHeartbeats 4000000 in
set_option maxRecDepth 100000 in
theorem c_L_finePart (l : Launch) (hl0 : l.stackTraces = false) (D : va_G) (aI aJ aZ : ClassId) (h : Nat → Nat) (st : St) (j : Jk) (x : Int32) (hi : HI st) (z0 : Nat) : Met l yL_finePart wsL_finePart ({ frames := 8, cells := 2, slots := 12, locals := 124 }) (va_Pc [.ref (h 0), .int x] (jXI D (jT aI aJ aZ) (HC aI aJ h st j) z0)) (va_Qi (S := Jk) (fun r u => hP_finePart st x r) (fun u t => jO D (jT aI aJ aZ) (va_A (HC aI aJ h st j) z0) (HC aI aJ h st u) t) (va_A (HC aI aJ h st j) z0)) 2 12 (va_A (HC aI aJ h st j) z0) := by
  refine jh_of (Qc := fun A => va_Qi (S := Jk) (fun r u => hP_finePart st x r) (fun u t => jO D (jT aI aJ aZ) A (HC aI aJ h st u) t) A) (hh := [(0, 5, 6, 23), (0, 5, 10, 29)]) (own := RL) (nm := "finePart") (by decide +kernel) rfl rfl rfl (Nat.le_of_ble_eq_true rfl) ?_
  intro p e s m below meth c A ls H locs C hXs hTab hP hD hS hl
  obtain ⟨hx, hb, hml, hown, hts, hK, hA, hlocks, hr, hn, hN⟩ := id C
  have L_23 := hts (.classLink RL 23 "java/lang/IndexOutOfBoundsException") (List.mem_of_getElem? (i := 1) rfl)
  have L_25 := hts (.constant RL 25 (-9999001)) (List.mem_of_getElem? (i := 3) rfl)
  have L_29 := hts (.classLink RL 29 "java/util/NoSuchElementException") (List.mem_of_getElem? (i := 2) rfl)
  have L_31 := hts (.constant RL 31 (-9999004)) (List.mem_of_getElem? (i := 4) rfl)
  have hl : lv_has ls 3 [(0, .ref (h 0)), (1, .int x)] := hl
  refine lv_aload_n hx hb dL_finePart_0 rfl (lv_at hl 0 rfl) ?_
  refine lv_iload_n hx hb dL_finePart_1 rfl (lv_at hl 1 rfl) ?_
  refine jx_calli (vx_runV (As := [.int x]) (rest := []) C.fix (k_finePart l hl0 D aI aJ aZ h st j x hi H.size) (cwV 1 hts gL_finePart_X6_finePart rfl rfl rfl (by decide +kernel) ⟨Nat.le_of_ble_eq_true rfl, Nat.le_of_ble_eq_true rfl⟩) (jxPreV hXs hA hS hN hK hP hD [0, 1, 2, 3, 4, 5, 6, 7, 8, 9, 10, 11, 12, 13, 14, 15, 16, 17, 18, 19, 20] rfl rfl (by decide) (ci := 6) (q0 := 0) rfl rfl) rfl rfl hl.1 rfl (lv_room (Nat.le_of_ble_eq_true rfl)) dL_finePart_2 ⟨Nat.le_of_ble_eq_true rfl, Nat.le_of_ble_eq_true rfl⟩) hA hP hD hS [0, 1, 2, 3, 4, 5, 6, 7, 8, 9, 10, 11, 12, 13, 14, 15, 16, 17, 18, 19, 20] [] (wr := []) rfl rfl (by decide) (by decide) (fun ux E9 q9 ce H locs xp hce hcv hcl hP hD hS => ?_) (fun r_3 u_3 H locs q_3 hP hD hS => ?_)
  · have hP : va_P D vwCl (HC aI aJ h st ux) H := hP
    have hD : va_D A (HC aI aJ h st ux) := hD
    have xp : (E9 = "java/lang/IndexOutOfBoundsException" ∧ (ix (sNl st) x = none)) ∨ (E9 = "java/util/NoSuchElementException" ∧ (∃ ii, ix (sNl st) x = some ii ∧ ¬ pL (sE st) (sL st) (sR st) (sNl st) (sNr st) ii = 1)) := xp
    rcases xp with xp | xp
    · obtain ⟨rfl, xq⟩ := xp
      refine jh_catch0 (h0 := (0, 5, 6, 23)) hown hTab (by decide +kernel) (by decide) L_23 (hXs.1 _ (by decide)) hce hcv hcl ?_
      refine lv_astore_n (lv' := [(2, .ref q9), (0, .ref (h 0)), (1, .int x)]) hx hb dL_finePart_6 rfl hl (by decide) rfl (fun ls hl => ?_)
      refine lv_ldc (v := -9999001) hx hb hown L_25 dL_finePart_7 ?_
      refine W.widen (k := 2) (n := 12) (Nat.le_of_ble_eq_true rfl) (Nat.le_of_ble_eq_true rfl) ?_
      exact j_iret (w1 := fun u => HC aI aJ h st u) (post := fun r u => hP_finePart st x r) C ux hP hD hS (Or.inr (Or.inl ⟨xq, rfl⟩)) dL_finePart_9
    · obtain ⟨rfl, xq⟩ := xp
      refine jh_catch1 (n0 := "java/lang/IndexOutOfBoundsException") (h0 := (0, 5, 6, 23)) (h1 := (0, 5, 10, 29)) hown hTab (by decide +kernel) (by decide) (by decide) L_23 (hXs.2.2.2.1 (_, _) (by decide)) L_29 (hXs.1 _ (by decide)) hce hcv hcl ?_
      refine lv_astore_n (lv' := [(2, .ref q9), (0, .ref (h 0)), (1, .int x)]) hx hb dL_finePart_10 rfl hl (by decide) rfl (fun ls hl => ?_)
      refine lv_ldc (v := -9999004) hx hb hown L_31 dL_finePart_11 ?_
      refine W.widen (k := 2) (n := 12) (Nat.le_of_ble_eq_true rfl) (Nat.le_of_ble_eq_true rfl) ?_
      exact j_iret (w1 := fun u => HC aI aJ h st u) (post := fun r u => hP_finePart st x r) C ux hP hD hS (Or.inr (Or.inr (⟨xq, rfl⟩))) dL_finePart_13
  · have hP : va_P D vwCl (HC aI aJ h st u_3) H := hP
    have hD : va_D A (HC aI aJ h st u_3) := hD
    obtain ⟨ii_3, p0_3, p1_3, rfl⟩ := q_3
    refine W.widen (k := 2) (n := 12) (Nat.le_of_ble_eq_true rfl) (Nat.le_of_ble_eq_true rfl) ?_
    exact j_iret (w1 := fun u => HC aI aJ h st u) (post := fun r u => hP_finePart st x r) C u_3 hP hD hS (Or.inl ⟨ii_3, p0_3, p1_3, rfl⟩) dL_finePart_5
abbrev hP_leads (st : St) (x : Int32) (y : Int32) (r : Int32) : Prop := (∃ ii : Nat, ∃ jj : Nat, (ix (sNl st) x = some ii) ∧ (ix (sNl st) y = some jj) ∧ (pL (sE st) (sL st) (sR st) (sNl st) (sNr st) ii = 1) ∧ (pL (sE st) (sL st) (sR st) (sNl st) (sNr st) jj = 1) ∧ r = nI (b2n (RC (sE st) (sL st) (sR st) (sNl st) (sNr st) ii jj))) ∨ ((ix (sNl st) x = none ∨ ix (sNl st) y = none) ∧ r = (-9999001)) ∨ ((∃ ii jj, ix (sNl st) x = some ii ∧ ix (sNl st) y = some jj ∧ ¬ (pL (sE st) (sL st) (sR st) (sNl st) (sNr st) ii = 1 ∧ pL (sE st) (sL st) (sR st) (sNl st) (sNr st) jj = 1)) ∧ r = (-9999004))
set_option maxHeartbeats 4000000 in
set_option maxRecDepth 100000 in
theorem c_L_leads (l : Launch) (hl0 : l.stackTraces = false) (D : va_G) (aI aJ aZ : ClassId) (h : Nat → Nat) (st : St) (j : Jk) (x : Int32) (y : Int32) (hi : HI st) (z0 : Nat) : Met l yL_leads wsL_leads ({ frames := 8, cells := 4, slots := 24, locals := 125 }) (va_Pc [.ref (h 0), .int x, .int y] (jXI D (jT aI aJ aZ) (HC aI aJ h st j) z0)) (va_Qi (S := Jk) (fun r u => hP_leads st x y r) (fun u t => jO D (jT aI aJ aZ) (va_A (HC aI aJ h st j) z0) (HC aI aJ h st u) t) (va_A (HC aI aJ h st j) z0)) 4 24 (va_A (HC aI aJ h st j) z0) := by
  refine jh_of (Qc := fun A => va_Qi (S := Jk) (fun r u => hP_leads st x y r) (fun u t => jO D (jT aI aJ aZ) A (HC aI aJ h st u) t) A) (hh := [(0, 14, 15, 23), (0, 14, 19, 29)]) (own := RL) (nm := "leads") (by decide +kernel) rfl rfl rfl (Nat.le_of_ble_eq_true rfl) ?_
  intro p e s m below meth c A ls H locs C hXs hTab hP hD hS hl
  obtain ⟨hx, hb, hml, hown, hts, hK, hA, hlocks, hr, hn, hN⟩ := id C
  have L_23 := hts (.classLink RL 23 "java/lang/IndexOutOfBoundsException") (List.mem_of_getElem? (i := 1) rfl)
  have L_25 := hts (.constant RL 25 (-9999001)) (List.mem_of_getElem? (i := 3) rfl)
  have L_29 := hts (.classLink RL 29 "java/util/NoSuchElementException") (List.mem_of_getElem? (i := 2) rfl)
  have L_31 := hts (.constant RL 31 (-9999004)) (List.mem_of_getElem? (i := 4) rfl)
  have hl : lv_has ls 4 [(0, .ref (h 0)), (1, .int x), (2, .int y)] := hl
  refine lv_aload_n hx hb dL_leads_0 rfl (lv_at hl 0 rfl) ?_
  refine lv_iload_n hx hb dL_leads_1 rfl (lv_at hl 1 rfl) ?_
  refine lv_iload_n hx hb dL_leads_2 rfl (lv_at hl 2 rfl) ?_
  refine jx_calli (vx_runV (As := [.int x, .int y]) (rest := []) C.fix (k_leads l hl0 D aI aJ aZ h st j x y hi H.size) (cwV 2 hts gL_leads_X6_leads rfl rfl rfl (by decide +kernel) ⟨Nat.le_of_ble_eq_true rfl, Nat.le_of_ble_eq_true rfl⟩) (jxPreV hXs hA hS hN hK hP hD [0, 1, 2, 3, 4, 5, 6, 7, 8, 9, 10, 11, 12, 13, 14, 15, 16, 17, 18, 19, 20] rfl rfl (by decide) (ci := 6) (q0 := 0) rfl rfl) rfl rfl hl.1 rfl (lv_room (Nat.le_of_ble_eq_true rfl)) dL_leads_3 ⟨Nat.le_of_ble_eq_true rfl, Nat.le_of_ble_eq_true rfl⟩) hA hP hD hS [0, 1, 2, 3, 4, 5, 6, 7, 8, 9, 10, 11, 12, 13, 14, 15, 16, 17, 18, 19, 20] [] (wr := []) rfl rfl (by decide) (by decide) (fun ux E9 q9 ce H locs xp hce hcv hcl hP hD hS => ?_) (fun r_3 u_3 H locs q_3 hP hD hS => ?_)
  · have hP : va_P D vwCl (HC aI aJ h st ux) H := hP
    have hD : va_D A (HC aI aJ h st ux) := hD
    have xp : (E9 = "java/lang/IndexOutOfBoundsException" ∧ (ix (sNl st) x = none ∨ ix (sNl st) y = none)) ∨ (E9 = "java/util/NoSuchElementException" ∧ (∃ ii jj, ix (sNl st) x = some ii ∧ ix (sNl st) y = some jj ∧ ¬ (pL (sE st) (sL st) (sR st) (sNl st) (sNr st) ii = 1 ∧ pL (sE st) (sL st) (sR st) (sNl st) (sNr st) jj = 1))) := xp
    rcases xp with xp | xp
    · obtain ⟨rfl, xq⟩ := xp
      refine jh_catch0 (h0 := (0, 14, 15, 23)) hown hTab (by decide +kernel) (by decide) L_23 (hXs.1 _ (by decide)) hce hcv hcl ?_
      refine lv_astore_n (lv' := [(3, .ref q9), (0, .ref (h 0)), (1, .int x), (2, .int y)]) hx hb dL_leads_15 rfl hl (by decide) rfl (fun ls hl => ?_)
      refine lv_ldc (v := -9999001) hx hb hown L_25 dL_leads_16 ?_
      refine W.widen (k := 4) (n := 24) (Nat.le_of_ble_eq_true rfl) (Nat.le_of_ble_eq_true rfl) ?_
      exact j_iret (w1 := fun u => HC aI aJ h st u) (post := fun r u => hP_leads st x y r) C ux hP hD hS (Or.inr (Or.inl ⟨xq, rfl⟩)) dL_leads_18
    · obtain ⟨rfl, xq⟩ := xp
      refine jh_catch1 (n0 := "java/lang/IndexOutOfBoundsException") (h0 := (0, 14, 15, 23)) (h1 := (0, 14, 19, 29)) hown hTab (by decide +kernel) (by decide) (by decide) L_23 (hXs.2.2.2.1 (_, _) (by decide)) L_29 (hXs.1 _ (by decide)) hce hcv hcl ?_
      refine lv_astore_n (lv' := [(3, .ref q9), (0, .ref (h 0)), (1, .int x), (2, .int y)]) hx hb dL_leads_19 rfl hl (by decide) rfl (fun ls hl => ?_)
      refine lv_ldc (v := -9999004) hx hb hown L_31 dL_leads_20 ?_
      refine W.widen (k := 4) (n := 24) (Nat.le_of_ble_eq_true rfl) (Nat.le_of_ble_eq_true rfl) ?_
      exact j_iret (w1 := fun u => HC aI aJ h st u) (post := fun r u => hP_leads st x y r) C ux hP hD hS (Or.inr (Or.inr (⟨xq, rfl⟩))) dL_leads_22
  · have hP : va_P D vwCl (HC aI aJ h st u_3) H := hP
    have hD : va_D A (HC aI aJ h st u_3) := hD
    obtain ⟨ii_3, jj_3, p0_3, p1_3, p2_3, p3_3, rfl⟩ := q_3
    refine lv_if_eq (tgt := 13) hx hb dL_leads_6 (by decide) (fun c_6 => ?_) (fun c_6 => ?_)
    · rw [cv_b0] at c_6
      refine lv_iconst (v := nI 0) hx hb dL_leads_13 (by decide) ?_
      refine W.widen (k := 4) (n := 24) (Nat.le_of_ble_eq_true rfl) (Nat.le_of_ble_eq_true rfl) ?_
      exact j_iret (w1 := fun u => HC aI aJ h st u) (post := fun r u => hP_leads st x y r) C u_3 hP hD hS (Or.inl ⟨ii_3, jj_3, p0_3, p1_3, p2_3, p3_3, by rw [c_6] <;> rfl⟩) dL_leads_14
    · rw [cv_b0, cv_nb] at c_6
      refine lv_iconst (v := nI 1) hx hb dL_leads_9 (by decide) ?_
      refine lv_goto (tgt := 14) hx hb dL_leads_10 (by decide) ?_
      refine W.widen (k := 4) (n := 24) (Nat.le_of_ble_eq_true rfl) (Nat.le_of_ble_eq_true rfl) ?_
      exact j_iret (w1 := fun u => HC aI aJ h st u) (post := fun r u => hP_leads st x y r) C u_3 hP hD hS (Or.inl ⟨ii_3, jj_3, p0_3, p1_3, p2_3, p3_3, by rw [c_6] <;> rfl⟩) dL_leads_14
abbrev hP_inSome (st : St) (x : Int32) (y : Int32) (r : Int32) : Prop := (∃ ii : Nat, ∃ jj : Nat, (ix (sNl st) x = some ii) ∧ (ix (sNr st) y = some jj) ∧ ((sE st) ii jj = true) ∧ r = nI (b2n (iSm (sE st) (sL st) (sR st) (sNl st) (sNr st) ii jj))) ∨ ((ix (sNl st) x = none ∨ ix (sNr st) y = none) ∧ r = (-9999001)) ∨ ((∃ ii jj, ix (sNl st) x = some ii ∧ ix (sNr st) y = some jj ∧ (sE st) ii jj = false) ∧ r = (-9999004))
set_option maxHeartbeats 4000000 in
set_option maxRecDepth 100000 in
theorem c_L_inSome (l : Launch) (hl0 : l.stackTraces = false) (D : va_G) (aI aJ aZ : ClassId) (h : Nat → Nat) (st : St) (j : Jk) (x : Int32) (y : Int32) (hi : HI st) (z0 : Nat) : Met l yL_inSome wsL_inSome ({ frames := 10, cells := 3, slots := 18, locals := 170 }) (va_Pc [.ref (h 0), .int x, .int y] (jXI D (jT aI aJ aZ) (HC aI aJ h st j) z0)) (va_Qi (S := Jk) (fun r u => hP_inSome st x y r) (fun u t => jO D (jT aI aJ aZ) (va_A (HC aI aJ h st j) z0) (HC aI aJ h st u) t) (va_A (HC aI aJ h st j) z0)) 3 18 (va_A (HC aI aJ h st j) z0) := by
  refine jh_of (Qc := fun A => va_Qi (S := Jk) (fun r u => hP_inSome st x y r) (fun u t => jO D (jT aI aJ aZ) A (HC aI aJ h st u) t) A) (hh := [(0, 14, 15, 23), (0, 14, 19, 29)]) (own := RL) (nm := "inSome") (by decide +kernel) rfl rfl rfl (Nat.le_of_ble_eq_true rfl) ?_
  intro p e s m below meth c A ls H locs C hXs hTab hP hD hS hl
  obtain ⟨hx, hb, hml, hown, hts, hK, hA, hlocks, hr, hn, hN⟩ := id C
  have L_23 := hts (.classLink RL 23 "java/lang/IndexOutOfBoundsException") (List.mem_of_getElem? (i := 1) rfl)
  have L_25 := hts (.constant RL 25 (-9999001)) (List.mem_of_getElem? (i := 3) rfl)
  have L_29 := hts (.classLink RL 29 "java/util/NoSuchElementException") (List.mem_of_getElem? (i := 2) rfl)
  have L_31 := hts (.constant RL 31 (-9999004)) (List.mem_of_getElem? (i := 4) rfl)
  have hl : lv_has ls 4 [(0, .ref (h 0)), (1, .int x), (2, .int y)] := hl
  refine lv_aload_n hx hb dL_inSome_0 rfl (lv_at hl 0 rfl) ?_
  refine lv_iload_n hx hb dL_inSome_1 rfl (lv_at hl 1 rfl) ?_
  refine lv_iload_n hx hb dL_inSome_2 rfl (lv_at hl 2 rfl) ?_
  refine jx_calli (vx_runV (As := [.int x, .int y]) (rest := []) C.fix (k_isInSome l hl0 D aI aJ aZ h st j x y hi H.size) (cwV 2 hts gL_inSome_X6_isInSome rfl rfl rfl (by decide +kernel) ⟨Nat.le_of_ble_eq_true rfl, Nat.le_of_ble_eq_true rfl⟩) (jxPreV hXs hA hS hN hK hP hD [0, 1, 2, 3, 4, 5, 6, 7, 8, 9, 10, 11, 12, 13, 14, 15, 16, 17, 18, 19, 20] rfl rfl (by decide) (ci := 6) (q0 := 0) rfl rfl) rfl rfl hl.1 rfl (lv_room (Nat.le_of_ble_eq_true rfl)) dL_inSome_3 ⟨Nat.le_of_ble_eq_true rfl, Nat.le_of_ble_eq_true rfl⟩) hA hP hD hS [0, 1, 2, 3, 4, 5, 6, 7, 8, 9, 10, 11, 12, 13, 14, 15, 16, 17, 18, 19, 20] [] (wr := []) rfl rfl (by decide) (by decide) (fun ux E9 q9 ce H locs xp hce hcv hcl hP hD hS => ?_) (fun r_3 u_3 H locs q_3 hP hD hS => ?_)
  · have hP : va_P D vwCl (HC aI aJ h st ux) H := hP
    have hD : va_D A (HC aI aJ h st ux) := hD
    have xp : (E9 = "java/lang/IndexOutOfBoundsException" ∧ (ix (sNl st) x = none ∨ ix (sNr st) y = none)) ∨ (E9 = "java/util/NoSuchElementException" ∧ (∃ ii jj, ix (sNl st) x = some ii ∧ ix (sNr st) y = some jj ∧ (sE st) ii jj = false)) := xp
    rcases xp with xp | xp
    · obtain ⟨rfl, xq⟩ := xp
      refine jh_catch0 (h0 := (0, 14, 15, 23)) hown hTab (by decide +kernel) (by decide) L_23 (hXs.1 _ (by decide)) hce hcv hcl ?_
      refine lv_astore_n (lv' := [(3, .ref q9), (0, .ref (h 0)), (1, .int x), (2, .int y)]) hx hb dL_inSome_15 rfl hl (by decide) rfl (fun ls hl => ?_)
      refine lv_ldc (v := -9999001) hx hb hown L_25 dL_inSome_16 ?_
      refine W.widen (k := 3) (n := 18) (Nat.le_of_ble_eq_true rfl) (Nat.le_of_ble_eq_true rfl) ?_
      exact j_iret (w1 := fun u => HC aI aJ h st u) (post := fun r u => hP_inSome st x y r) C ux hP hD hS (Or.inr (Or.inl ⟨xq, rfl⟩)) dL_inSome_18
    · obtain ⟨rfl, xq⟩ := xp
      refine jh_catch1 (n0 := "java/lang/IndexOutOfBoundsException") (h0 := (0, 14, 15, 23)) (h1 := (0, 14, 19, 29)) hown hTab (by decide +kernel) (by decide) (by decide) L_23 (hXs.2.2.2.1 (_, _) (by decide)) L_29 (hXs.1 _ (by decide)) hce hcv hcl ?_
      refine lv_astore_n (lv' := [(3, .ref q9), (0, .ref (h 0)), (1, .int x), (2, .int y)]) hx hb dL_inSome_19 rfl hl (by decide) rfl (fun ls hl => ?_)
      refine lv_ldc (v := -9999004) hx hb hown L_31 dL_inSome_20 ?_
      refine W.widen (k := 3) (n := 18) (Nat.le_of_ble_eq_true rfl) (Nat.le_of_ble_eq_true rfl) ?_
      exact j_iret (w1 := fun u => HC aI aJ h st u) (post := fun r u => hP_inSome st x y r) C ux hP hD hS (Or.inr (Or.inr (⟨xq, rfl⟩))) dL_inSome_22
  · have hP : va_P D vwCl (HC aI aJ h st u_3) H := hP
    have hD : va_D A (HC aI aJ h st u_3) := hD
    obtain ⟨ii_3, jj_3, p0_3, p1_3, p2_3, rfl⟩ := q_3
    refine lv_if_eq (tgt := 13) hx hb dL_inSome_6 (by decide) (fun c_6 => ?_) (fun c_6 => ?_)
    · rw [cv_b0] at c_6
      refine lv_iconst (v := nI 0) hx hb dL_inSome_13 (by decide) ?_
      refine W.widen (k := 3) (n := 18) (Nat.le_of_ble_eq_true rfl) (Nat.le_of_ble_eq_true rfl) ?_
      exact j_iret (w1 := fun u => HC aI aJ h st u) (post := fun r u => hP_inSome st x y r) C u_3 hP hD hS (Or.inl ⟨ii_3, jj_3, p0_3, p1_3, p2_3, by rw [c_6] <;> rfl⟩) dL_inSome_14
    · rw [cv_b0, cv_nb] at c_6
      refine lv_iconst (v := nI 1) hx hb dL_inSome_9 (by decide) ?_
      refine lv_goto (tgt := 14) hx hb dL_inSome_10 (by decide) ?_
      refine W.widen (k := 3) (n := 18) (Nat.le_of_ble_eq_true rfl) (Nat.le_of_ble_eq_true rfl) ?_
      exact j_iret (w1 := fun u => HC aI aJ h st u) (post := fun r u => hP_inSome st x y r) C u_3 hP hD hS (Or.inl ⟨ii_3, jj_3, p0_3, p1_3, p2_3, by rw [c_6] <;> rfl⟩) dL_inSome_14
abbrev hP_inAll (st : St) (x : Int32) (y : Int32) (r : Int32) : Prop := (∃ ii : Nat, ∃ jj : Nat, (ix (sNl st) x = some ii) ∧ (ix (sNr st) y = some jj) ∧ ((sE st) ii jj = true) ∧ r = nI (b2n (iAl (sE st) (sL st) (sR st) (sNl st) (sNr st) ii jj))) ∨ ((ix (sNl st) x = none ∨ ix (sNr st) y = none) ∧ r = (-9999001)) ∨ ((∃ ii jj, ix (sNl st) x = some ii ∧ ix (sNr st) y = some jj ∧ (sE st) ii jj = false) ∧ r = (-9999004))
set_option maxHeartbeats 4000000 in
set_option maxRecDepth 100000 in
theorem c_L_inAll (l : Launch) (hl0 : l.stackTraces = false) (D : va_G) (aI aJ aZ : ClassId) (h : Nat → Nat) (st : St) (j : Jk) (x : Int32) (y : Int32) (hi : HI st) (z0 : Nat) : Met l yL_inAll wsL_inAll ({ frames := 10, cells := 3, slots := 18, locals := 169 }) (va_Pc [.ref (h 0), .int x, .int y] (jXI D (jT aI aJ aZ) (HC aI aJ h st j) z0)) (va_Qi (S := Jk) (fun r u => hP_inAll st x y r) (fun u t => jO D (jT aI aJ aZ) (va_A (HC aI aJ h st j) z0) (HC aI aJ h st u) t) (va_A (HC aI aJ h st j) z0)) 3 18 (va_A (HC aI aJ h st j) z0) := by
  refine jh_of (Qc := fun A => va_Qi (S := Jk) (fun r u => hP_inAll st x y r) (fun u t => jO D (jT aI aJ aZ) A (HC aI aJ h st u) t) A) (hh := [(0, 14, 15, 23), (0, 14, 19, 29)]) (own := RL) (nm := "inAll") (by decide +kernel) rfl rfl rfl (Nat.le_of_ble_eq_true rfl) ?_
  intro p e s m below meth c A ls H locs C hXs hTab hP hD hS hl
  obtain ⟨hx, hb, hml, hown, hts, hK, hA, hlocks, hr, hn, hN⟩ := id C
  have L_23 := hts (.classLink RL 23 "java/lang/IndexOutOfBoundsException") (List.mem_of_getElem? (i := 1) rfl)
  have L_25 := hts (.constant RL 25 (-9999001)) (List.mem_of_getElem? (i := 3) rfl)
  have L_29 := hts (.classLink RL 29 "java/util/NoSuchElementException") (List.mem_of_getElem? (i := 2) rfl)
  have L_31 := hts (.constant RL 31 (-9999004)) (List.mem_of_getElem? (i := 4) rfl)
  have hl : lv_has ls 4 [(0, .ref (h 0)), (1, .int x), (2, .int y)] := hl
  refine lv_aload_n hx hb dL_inAll_0 rfl (lv_at hl 0 rfl) ?_
  refine lv_iload_n hx hb dL_inAll_1 rfl (lv_at hl 1 rfl) ?_
  refine lv_iload_n hx hb dL_inAll_2 rfl (lv_at hl 2 rfl) ?_
  refine jx_calli (vx_runV (As := [.int x, .int y]) (rest := []) C.fix (k_isInAll l hl0 D aI aJ aZ h st j x y hi H.size) (cwV 2 hts gL_inAll_X6_isInAll rfl rfl rfl (by decide +kernel) ⟨Nat.le_of_ble_eq_true rfl, Nat.le_of_ble_eq_true rfl⟩) (jxPreV hXs hA hS hN hK hP hD [0, 1, 2, 3, 4, 5, 6, 7, 8, 9, 10, 11, 12, 13, 14, 15, 16, 17, 18, 19, 20] rfl rfl (by decide) (ci := 6) (q0 := 0) rfl rfl) rfl rfl hl.1 rfl (lv_room (Nat.le_of_ble_eq_true rfl)) dL_inAll_3 ⟨Nat.le_of_ble_eq_true rfl, Nat.le_of_ble_eq_true rfl⟩) hA hP hD hS [0, 1, 2, 3, 4, 5, 6, 7, 8, 9, 10, 11, 12, 13, 14, 15, 16, 17, 18, 19, 20] [] (wr := []) rfl rfl (by decide) (by decide) (fun ux E9 q9 ce H locs xp hce hcv hcl hP hD hS => ?_) (fun r_3 u_3 H locs q_3 hP hD hS => ?_)
  · have hP : va_P D vwCl (HC aI aJ h st ux) H := hP
    have hD : va_D A (HC aI aJ h st ux) := hD
    have xp : (E9 = "java/lang/IndexOutOfBoundsException" ∧ (ix (sNl st) x = none ∨ ix (sNr st) y = none)) ∨ (E9 = "java/util/NoSuchElementException" ∧ (∃ ii jj, ix (sNl st) x = some ii ∧ ix (sNr st) y = some jj ∧ (sE st) ii jj = false)) := xp
    rcases xp with xp | xp
    · obtain ⟨rfl, xq⟩ := xp
      refine jh_catch0 (h0 := (0, 14, 15, 23)) hown hTab (by decide +kernel) (by decide) L_23 (hXs.1 _ (by decide)) hce hcv hcl ?_
      refine lv_astore_n (lv' := [(3, .ref q9), (0, .ref (h 0)), (1, .int x), (2, .int y)]) hx hb dL_inAll_15 rfl hl (by decide) rfl (fun ls hl => ?_)
      refine lv_ldc (v := -9999001) hx hb hown L_25 dL_inAll_16 ?_
      refine W.widen (k := 3) (n := 18) (Nat.le_of_ble_eq_true rfl) (Nat.le_of_ble_eq_true rfl) ?_
      exact j_iret (w1 := fun u => HC aI aJ h st u) (post := fun r u => hP_inAll st x y r) C ux hP hD hS (Or.inr (Or.inl ⟨xq, rfl⟩)) dL_inAll_18
    · obtain ⟨rfl, xq⟩ := xp
      refine jh_catch1 (n0 := "java/lang/IndexOutOfBoundsException") (h0 := (0, 14, 15, 23)) (h1 := (0, 14, 19, 29)) hown hTab (by decide +kernel) (by decide) (by decide) L_23 (hXs.2.2.2.1 (_, _) (by decide)) L_29 (hXs.1 _ (by decide)) hce hcv hcl ?_
      refine lv_astore_n (lv' := [(3, .ref q9), (0, .ref (h 0)), (1, .int x), (2, .int y)]) hx hb dL_inAll_19 rfl hl (by decide) rfl (fun ls hl => ?_)
      refine lv_ldc (v := -9999004) hx hb hown L_31 dL_inAll_20 ?_
      refine W.widen (k := 3) (n := 18) (Nat.le_of_ble_eq_true rfl) (Nat.le_of_ble_eq_true rfl) ?_
      exact j_iret (w1 := fun u => HC aI aJ h st u) (post := fun r u => hP_inAll st x y r) C ux hP hD hS (Or.inr (Or.inr (⟨xq, rfl⟩))) dL_inAll_22
  · have hP : va_P D vwCl (HC aI aJ h st u_3) H := hP
    have hD : va_D A (HC aI aJ h st u_3) := hD
    obtain ⟨ii_3, jj_3, p0_3, p1_3, p2_3, rfl⟩ := q_3
    refine lv_if_eq (tgt := 13) hx hb dL_inAll_6 (by decide) (fun c_6 => ?_) (fun c_6 => ?_)
    · rw [cv_b0] at c_6
      refine lv_iconst (v := nI 0) hx hb dL_inAll_13 (by decide) ?_
      refine W.widen (k := 3) (n := 18) (Nat.le_of_ble_eq_true rfl) (Nat.le_of_ble_eq_true rfl) ?_
      exact j_iret (w1 := fun u => HC aI aJ h st u) (post := fun r u => hP_inAll st x y r) C u_3 hP hD hS (Or.inl ⟨ii_3, jj_3, p0_3, p1_3, p2_3, by rw [c_6] <;> rfl⟩) dL_inAll_14
    · rw [cv_b0, cv_nb] at c_6
      refine lv_iconst (v := nI 1) hx hb dL_inAll_9 (by decide) ?_
      refine lv_goto (tgt := 14) hx hb dL_inAll_10 (by decide) ?_
      refine W.widen (k := 3) (n := 18) (Nat.le_of_ble_eq_true rfl) (Nat.le_of_ble_eq_true rfl) ?_
      exact j_iret (w1 := fun u => HC aI aJ h st u) (post := fun r u => hP_inAll st x y r) C u_3 hP hD hS (Or.inl ⟨ii_3, jj_3, p0_3, p1_3, p2_3, by rw [c_6] <;> rfl⟩) dL_inAll_14
abbrev hP_leftCover (st : St) (x : Int32) (r : Int32) : Prop := (∃ ii : Nat, (ix (sNl st) x = some ii) ∧ r = nI (b2n (!LHl (sE st) (sL st) (sR st) (sNl st) ii))) ∨ ((ix (sNl st) x = none) ∧ r = (-9999001))
set_option maxHeartbeats 4000000 in
set_option maxRecDepth 100000 in
theorem c_L_leftCover (l : Launch) (hl0 : l.stackTraces = false) (D : va_G) (aI aJ aZ : ClassId) (h : Nat → Nat) (st : St) (j : Jk) (x : Int32) (hi : HI st) (z0 : Nat) : Met l yL_leftCover wsL_leftCover ({ frames := 8, cells := 1, slots := 6, locals := 124 }) (va_Pc [.ref (h 0), .int x] (jXI D (jT aI aJ aZ) (HC aI aJ h st j) z0)) (va_Qi (S := Jk) (fun r u => hP_leftCover st x r) (fun u t => jO D (jT aI aJ aZ) (va_A (HC aI aJ h st j) z0) (HC aI aJ h st u) t) (va_A (HC aI aJ h st j) z0)) 1 6 (va_A (HC aI aJ h st j) z0) := by
  refine jh_of (Qc := fun A => va_Qi (S := Jk) (fun r u => hP_leftCover st x r) (fun u t => jO D (jT aI aJ aZ) A (HC aI aJ h st u) t) A) (hh := [(0, 13, 14, 23)]) (own := RL) (nm := "leftCover") (by decide +kernel) rfl rfl rfl (Nat.le_of_ble_eq_true rfl) ?_
  intro p e s m below meth c A ls H locs C hXs hTab hP hD hS hl
  obtain ⟨hx, hb, hml, hown, hts, hK, hA, hlocks, hr, hn, hN⟩ := id C
  have L_23 := hts (.classLink RL 23 "java/lang/IndexOutOfBoundsException") (List.mem_of_getElem? (i := 1) rfl)
  have L_25 := hts (.constant RL 25 (-9999001)) (List.mem_of_getElem? (i := 2) rfl)
  have hl : lv_has ls 3 [(0, .ref (h 0)), (1, .int x)] := hl
  refine lv_aload_n hx hb dL_leftCover_0 rfl (lv_at hl 0 rfl) ?_
  refine lv_iload_n hx hb dL_leftCover_1 rfl (lv_at hl 1 rfl) ?_
  refine jx_calli (vx_runV (As := [.int x]) (rest := []) C.fix (k_coversLeft l hl0 D aI aJ aZ h st j x hi H.size) (cwV 1 hts gL_leftCover_X6_coversLeft rfl rfl rfl (by decide +kernel) ⟨Nat.le_of_ble_eq_true rfl, Nat.le_of_ble_eq_true rfl⟩) (jxPreV hXs hA hS hN hK hP hD [0, 1, 2, 3, 4, 5, 6, 7, 8, 9, 10, 11, 12, 13, 14, 15, 16, 17, 18, 19, 20] rfl rfl (by decide) (ci := 6) (q0 := 0) rfl rfl) rfl rfl hl.1 rfl (lv_room (Nat.le_of_ble_eq_true rfl)) dL_leftCover_2 ⟨Nat.le_of_ble_eq_true rfl, Nat.le_of_ble_eq_true rfl⟩) hA hP hD hS [0, 1, 2, 3, 4, 5, 6, 7, 8, 9, 10, 11, 12, 13, 14, 15, 16, 17, 18, 19, 20] [] (wr := []) rfl rfl (by decide) (by decide) (fun ux E9 q9 ce H locs xp hce hcv hcl hP hD hS => ?_) (fun r_3 u_3 H locs q_3 hP hD hS => ?_)
  · have hP : va_P D vwCl (HC aI aJ h st ux) H := hP
    have hD : va_D A (HC aI aJ h st ux) := hD
    have xp : (E9 = "java/lang/IndexOutOfBoundsException" ∧ (ix (sNl st) x = none)) := xp
    obtain ⟨rfl, xq⟩ := xp
    refine jh_catch0 (h0 := (0, 13, 14, 23)) hown hTab (by decide +kernel) (by decide) L_23 (hXs.1 _ (by decide)) hce hcv hcl ?_
    refine lv_astore_n (lv' := [(2, .ref q9), (0, .ref (h 0)), (1, .int x)]) hx hb dL_leftCover_14 rfl hl (by decide) rfl (fun ls hl => ?_)
    refine lv_ldc (v := -9999001) hx hb hown L_25 dL_leftCover_15 ?_
    refine W.widen (k := 1) (n := 6) (Nat.le_of_ble_eq_true rfl) (Nat.le_of_ble_eq_true rfl) ?_
    exact j_iret (w1 := fun u => HC aI aJ h st u) (post := fun r u => hP_leftCover st x r) C ux hP hD hS (Or.inr (⟨xq, rfl⟩)) dL_leftCover_17
  · have hP : va_P D vwCl (HC aI aJ h st u_3) H := hP
    have hD : va_D A (HC aI aJ h st u_3) := hD
    obtain ⟨ii_3, p0_3, rfl⟩ := q_3
    refine lv_if_eq (tgt := 12) hx hb dL_leftCover_5 (by decide) (fun c_6 => ?_) (fun c_6 => ?_)
    · rw [cv_b0] at c_6
      refine lv_iconst (v := nI 0) hx hb dL_leftCover_12 (by decide) ?_
      refine W.widen (k := 1) (n := 6) (Nat.le_of_ble_eq_true rfl) (Nat.le_of_ble_eq_true rfl) ?_
      exact j_iret (w1 := fun u => HC aI aJ h st u) (post := fun r u => hP_leftCover st x r) C u_3 hP hD hS (Or.inl ⟨ii_3, p0_3, by rw [c_6] <;> rfl⟩) dL_leftCover_13
    · rw [cv_b0, cv_nb] at c_6
      refine lv_iconst (v := nI 1) hx hb dL_leftCover_8 (by decide) ?_
      refine lv_goto (tgt := 13) hx hb dL_leftCover_9 (by decide) ?_
      refine W.widen (k := 1) (n := 6) (Nat.le_of_ble_eq_true rfl) (Nat.le_of_ble_eq_true rfl) ?_
      exact j_iret (w1 := fun u => HC aI aJ h st u) (post := fun r u => hP_leftCover st x r) C u_3 hP hD hS (Or.inl ⟨ii_3, p0_3, by rw [c_6] <;> rfl⟩) dL_leftCover_13
abbrev hP_rightCover (st : St) (x : Int32) (r : Int32) : Prop := (∃ ii : Nat, (ix (sNr st) x = some ii) ∧ r = nI (b2n (LHr (sE st) (sL st) (sR st) (sNl st) ii))) ∨ ((ix (sNr st) x = none) ∧ r = (-9999001))
set_option maxHeartbeats 4000000 in
set_option maxRecDepth 100000 in
theorem c_L_rightCover (l : Launch) (hl0 : l.stackTraces = false) (D : va_G) (aI aJ aZ : ClassId) (h : Nat → Nat) (st : St) (j : Jk) (x : Int32) (hi : HI st) (z0 : Nat) : Met l yL_rightCover wsL_rightCover ({ frames := 8, cells := 1, slots := 6, locals := 124 }) (va_Pc [.ref (h 0), .int x] (jXI D (jT aI aJ aZ) (HC aI aJ h st j) z0)) (va_Qi (S := Jk) (fun r u => hP_rightCover st x r) (fun u t => jO D (jT aI aJ aZ) (va_A (HC aI aJ h st j) z0) (HC aI aJ h st u) t) (va_A (HC aI aJ h st j) z0)) 1 6 (va_A (HC aI aJ h st j) z0) := by
  refine jh_of (Qc := fun A => va_Qi (S := Jk) (fun r u => hP_rightCover st x r) (fun u t => jO D (jT aI aJ aZ) A (HC aI aJ h st u) t) A) (hh := [(0, 13, 14, 23)]) (own := RL) (nm := "rightCover") (by decide +kernel) rfl rfl rfl (Nat.le_of_ble_eq_true rfl) ?_
  intro p e s m below meth c A ls H locs C hXs hTab hP hD hS hl
  obtain ⟨hx, hb, hml, hown, hts, hK, hA, hlocks, hr, hn, hN⟩ := id C
  have L_23 := hts (.classLink RL 23 "java/lang/IndexOutOfBoundsException") (List.mem_of_getElem? (i := 1) rfl)
  have L_25 := hts (.constant RL 25 (-9999001)) (List.mem_of_getElem? (i := 2) rfl)
  have hl : lv_has ls 3 [(0, .ref (h 0)), (1, .int x)] := hl
  refine lv_aload_n hx hb dL_rightCover_0 rfl (lv_at hl 0 rfl) ?_
  refine lv_iload_n hx hb dL_rightCover_1 rfl (lv_at hl 1 rfl) ?_
  refine jx_calli (vx_runV (As := [.int x]) (rest := []) C.fix (k_coversRight l hl0 D aI aJ aZ h st j x hi H.size) (cwV 1 hts gL_rightCover_X6_coversRight rfl rfl rfl (by decide +kernel) ⟨Nat.le_of_ble_eq_true rfl, Nat.le_of_ble_eq_true rfl⟩) (jxPreV hXs hA hS hN hK hP hD [0, 1, 2, 3, 4, 5, 6, 7, 8, 9, 10, 11, 12, 13, 14, 15, 16, 17, 18, 19, 20] rfl rfl (by decide) (ci := 6) (q0 := 0) rfl rfl) rfl rfl hl.1 rfl (lv_room (Nat.le_of_ble_eq_true rfl)) dL_rightCover_2 ⟨Nat.le_of_ble_eq_true rfl, Nat.le_of_ble_eq_true rfl⟩) hA hP hD hS [0, 1, 2, 3, 4, 5, 6, 7, 8, 9, 10, 11, 12, 13, 14, 15, 16, 17, 18, 19, 20] [] (wr := []) rfl rfl (by decide) (by decide) (fun ux E9 q9 ce H locs xp hce hcv hcl hP hD hS => ?_) (fun r_3 u_3 H locs q_3 hP hD hS => ?_)
  · have hP : va_P D vwCl (HC aI aJ h st ux) H := hP
    have hD : va_D A (HC aI aJ h st ux) := hD
    have xp : (E9 = "java/lang/IndexOutOfBoundsException" ∧ (ix (sNr st) x = none)) := xp
    obtain ⟨rfl, xq⟩ := xp
    refine jh_catch0 (h0 := (0, 13, 14, 23)) hown hTab (by decide +kernel) (by decide) L_23 (hXs.1 _ (by decide)) hce hcv hcl ?_
    refine lv_astore_n (lv' := [(2, .ref q9), (0, .ref (h 0)), (1, .int x)]) hx hb dL_rightCover_14 rfl hl (by decide) rfl (fun ls hl => ?_)
    refine lv_ldc (v := -9999001) hx hb hown L_25 dL_rightCover_15 ?_
    refine W.widen (k := 1) (n := 6) (Nat.le_of_ble_eq_true rfl) (Nat.le_of_ble_eq_true rfl) ?_
    exact j_iret (w1 := fun u => HC aI aJ h st u) (post := fun r u => hP_rightCover st x r) C ux hP hD hS (Or.inr (⟨xq, rfl⟩)) dL_rightCover_17
  · have hP : va_P D vwCl (HC aI aJ h st u_3) H := hP
    have hD : va_D A (HC aI aJ h st u_3) := hD
    obtain ⟨ii_3, p0_3, rfl⟩ := q_3
    refine lv_if_eq (tgt := 12) hx hb dL_rightCover_5 (by decide) (fun c_6 => ?_) (fun c_6 => ?_)
    · rw [cv_b0] at c_6
      refine lv_iconst (v := nI 0) hx hb dL_rightCover_12 (by decide) ?_
      refine W.widen (k := 1) (n := 6) (Nat.le_of_ble_eq_true rfl) (Nat.le_of_ble_eq_true rfl) ?_
      exact j_iret (w1 := fun u => HC aI aJ h st u) (post := fun r u => hP_rightCover st x r) C u_3 hP hD hS (Or.inl ⟨ii_3, p0_3, by rw [c_6] <;> rfl⟩) dL_rightCover_13
    · rw [cv_b0, cv_nb] at c_6
      refine lv_iconst (v := nI 1) hx hb dL_rightCover_8 (by decide) ?_
      refine lv_goto (tgt := 13) hx hb dL_rightCover_9 (by decide) ?_
      refine W.widen (k := 1) (n := 6) (Nat.le_of_ble_eq_true rfl) (Nat.le_of_ble_eq_true rfl) ?_
      exact j_iret (w1 := fun u => HC aI aJ h st u) (post := fun r u => hP_rightCover st x r) C u_3 hP hD hS (Or.inl ⟨ii_3, p0_3, by rw [c_6] <;> rfl⟩) dL_rightCover_13
