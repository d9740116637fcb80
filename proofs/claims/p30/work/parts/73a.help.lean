/-! the law's helpers -/
abbrev hP_newLeft (st : St) (t : St) (r : Int32) : Prop := (((sNl st) < 12) ∧ (t = (alS st)) ∧ r = nI (sNl st)) ∨ (t = st ∧ ((sNl st) = 12) ∧ r = (-9999003))
set_option maxHeartbeats 4000000 in
set_option maxRecDepth 100000 in
theorem c_L_newLeft (l : Launch) (hl0 : l.stackTraces = false) (D : va_G) (aI aJ aZ : ClassId) (h : Nat → Nat) (st : St) (j : Jk)  (hi : HI st) (z0 : Nat) : Met l yL_newLeft wsL_newLeft ({ frames := 7, cells := 1, slots := 6, locals := 103 }) (va_Pc [.ref (h 0)] (jXI D (jT aI aJ aZ) (HC aI aJ h st j) z0)) (va_Qi (S := St × Jk) (fun r u => hP_newLeft st u.1 r) (fun u t => jO D (jT aI aJ aZ) (va_A (HC aI aJ h st j) z0) (HC aI aJ h u.1 u.2) t) (va_A (HC aI aJ h st j) z0)) 1 6 (va_A (HC aI aJ h st j) z0) := by
  refine jh_of (Qc := fun A => va_Qi (S := St × Jk) (fun r u => hP_newLeft st u.1 r) (fun u t => jO D (jT aI aJ aZ) A (HC aI aJ h u.1 u.2) t) A) (hh := [(0, 4, 5, 13)]) (own := RL) (nm := "newLeft") (by decide +kernel) rfl rfl rfl (Nat.le_of_ble_eq_true rfl) ?_
  intro p e s m below meth c A ls H locs C hXs hTab hP hD hS hl
  obtain ⟨hx, hb, hml, hown, hts, hK, hA, hlocks, hr, hn, hN⟩ := id C
  have L_13 := hts (.classLink RL 13 "java/lang/IllegalStateException") (List.mem_of_getElem? (i := 1) rfl)
  have L_15 := hts (.constant RL 15 (-9999003)) (List.mem_of_getElem? (i := 2) rfl)
  have hl : lv_has ls 2 [(0, .ref (h 0))] := hl
  refine lv_aload_n hx hb dL_newLeft_0 rfl (lv_at hl 0 rfl) ?_
  refine jx_calli (vx_runV (As := []) (rest := []) C.fix (k_addLeft l hl0 D aI aJ aZ h st j  hi H.size) (cwV 0 hts gL_newLeft_X6_addLeft rfl rfl rfl (by decide +kernel) ⟨Nat.le_of_ble_eq_true rfl, Nat.le_of_ble_eq_true rfl⟩) (jxPreV hXs hA hS hN hK hP hD [0, 1, 2, 3, 4, 5, 6, 7, 8, 9, 10, 11, 12, 13, 14, 15, 16, 17, 18, 19, 20] rfl rfl (by decide) (ci := 6) (q0 := 0) rfl rfl) rfl rfl hl.1 rfl (lv_room (Nat.le_of_ble_eq_true rfl)) dL_newLeft_1 ⟨Nat.le_of_ble_eq_true rfl, Nat.le_of_ble_eq_true rfl⟩) hA hP hD hS [0, 1, 2, 3, 4, 5, 6, 7, 8, 9, 10, 11, 12, 13, 14, 15, 16, 17, 18, 19, 20] [] (wr := []) rfl rfl (by decide) (by decide) (fun ux E9 q9 ce H locs xp hce hcv hcl hP hD hS => ?_) (fun r_3 u_3 H locs q_3 hP hD hS => ?_)
  · have hP : va_P D vwCl (HC aI aJ h st ux) H := hP
    have hD : va_D A (HC aI aJ h st ux) := hD
    have xp : (E9 = "java/lang/IllegalStateException" ∧ ((sNl st) = 12)) := xp
    obtain ⟨rfl, xq⟩ := xp
    refine jh_catch0 (h0 := (0, 4, 5, 13)) hown hTab (by decide +kernel) (by decide) L_13 (hXs.1 _ (by decide)) hce hcv hcl ?_
    refine lv_astore_n (lv' := [(1, .ref q9), (0, .ref (h 0))]) hx hb dL_newLeft_5 rfl hl (by decide) rfl (fun ls hl => ?_)
    refine lv_ldc (v := -9999003) hx hb hown L_15 dL_newLeft_6 ?_
    refine W.widen (k := 1) (n := 6) (Nat.le_of_ble_eq_true rfl) (Nat.le_of_ble_eq_true rfl) ?_
    exact j_iret (w1 := fun u => HC aI aJ h u.1 u.2) (post := fun r u => hP_newLeft st u.1 r) C (st, ux) hP hD hS (Or.inr (⟨rfl, xq, rfl⟩)) dL_newLeft_8
  · have hP : va_P D vwCl (HC aI aJ h (alS st) u_3) H := hP
    have hD : va_D A (HC aI aJ h (alS st) u_3) := hD
    obtain ⟨p0_3, rfl⟩ := q_3
    refine W.widen (k := 1) (n := 6) (Nat.le_of_ble_eq_true rfl) (Nat.le_of_ble_eq_true rfl) ?_
    exact j_iret (w1 := fun u => HC aI aJ h u.1 u.2) (post := fun r u => hP_newLeft st u.1 r) C ((alS st), u_3) hP hD hS (Or.inl ⟨p0_3, rfl, rfl⟩) dL_newLeft_4
abbrev hP_newRight (st : St) (t : St) (r : Int32) : Prop := (((sNr st) < 12) ∧ (t = (arS st)) ∧ r = nI (sNr st)) ∨ (t = st ∧ ((sNr st) = 12) ∧ r = (-9999003))
set_option maxHeartbeats 4000000 in
set_option maxRecDepth 100000 in
theorem c_L_newRight (l : Launch) (hl0 : l.stackTraces = false) (D : va_G) (aI aJ aZ : ClassId) (h : Nat → Nat) (st : St) (j : Jk)  (hi : HI st) (z0 : Nat) : Met l yL_newRight wsL_newRight ({ frames := 7, cells := 1, slots := 6, locals := 103 }) (va_Pc [.ref (h 0)] (jXI D (jT aI aJ aZ) (HC aI aJ h st j) z0)) (va_Qi (S := St × Jk) (fun r u => hP_newRight st u.1 r) (fun u t => jO D (jT aI aJ aZ) (va_A (HC aI aJ h st j) z0) (HC aI aJ h u.1 u.2) t) (va_A (HC aI aJ h st j) z0)) 1 6 (va_A (HC aI aJ h st j) z0) := by
  refine jh_of (Qc := fun A => va_Qi (S := St × Jk) (fun r u => hP_newRight st u.1 r) (fun u t => jO D (jT aI aJ aZ) A (HC aI aJ h u.1 u.2) t) A) (hh := [(0, 4, 5, 13)]) (own := RL) (nm := "newRight") (by decide +kernel) rfl rfl rfl (Nat.le_of_ble_eq_true rfl) ?_
  intro p e s m below meth c A ls H locs C hXs hTab hP hD hS hl
  obtain ⟨hx, hb, hml, hown, hts, hK, hA, hlocks, hr, hn, hN⟩ := id C
  have L_13 := hts (.classLink RL 13 "java/lang/IllegalStateException") (List.mem_of_getElem? (i := 1) rfl)
  have L_15 := hts (.constant RL 15 (-9999003)) (List.mem_of_getElem? (i := 2) rfl)
  have hl : lv_has ls 2 [(0, .ref (h 0))] := hl
  refine lv_aload_n hx hb dL_newRight_0 rfl (lv_at hl 0 rfl) ?_
  refine jx_calli (vx_runV (As := []) (rest := []) C.fix (k_addRight l hl0 D aI aJ aZ h st j  hi H.size) (cwV 0 hts gL_newRight_X6_addRight rfl rfl rfl (by decide +kernel) ⟨Nat.le_of_ble_eq_true rfl, Nat.le_of_ble_eq_true rfl⟩) (jxPreV hXs hA hS hN hK hP hD [0, 1, 2, 3, 4, 5, 6, 7, 8, 9, 10, 11, 12, 13, 14, 15, 16, 17, 18, 19, 20] rfl rfl (by decide) (ci := 6) (q0 := 0) rfl rfl) rfl rfl hl.1 rfl (lv_room (Nat.le_of_ble_eq_true rfl)) dL_newRight_1 ⟨Nat.le_of_ble_eq_true rfl, Nat.le_of_ble_eq_true rfl⟩) hA hP hD hS [0, 1, 2, 3, 4, 5, 6, 7, 8, 9, 10, 11, 12, 13, 14, 15, 16, 17, 18, 19, 20] [] (wr := []) rfl rfl (by decide) (by decide) (fun ux E9 q9 ce H locs xp hce hcv hcl hP hD hS => ?_) (fun r_3 u_3 H locs q_3 hP hD hS => ?_)
  · have hP : va_P D vwCl (HC aI aJ h st ux) H := hP
    have hD : va_D A (HC aI aJ h st ux) := hD
    have xp : (E9 = "java/lang/IllegalStateException" ∧ ((sNr st) = 12)) := xp
    obtain ⟨rfl, xq⟩ := xp
    refine jh_catch0 (h0 := (0, 4, 5, 13)) hown hTab (by decide +kernel) (by decide) L_13 (hXs.1 _ (by decide)) hce hcv hcl ?_
    refine lv_astore_n (lv' := [(1, .ref q9), (0, .ref (h 0))]) hx hb dL_newRight_5 rfl hl (by decide) rfl (fun ls hl => ?_)
    refine lv_ldc (v := -9999003) hx hb hown L_15 dL_newRight_6 ?_
    refine W.widen (k := 1) (n := 6) (Nat.le_of_ble_eq_true rfl) (Nat.le_of_ble_eq_true rfl) ?_
    exact j_iret (w1 := fun u => HC aI aJ h u.1 u.2) (post := fun r u => hP_newRight st u.1 r) C (st, ux) hP hD hS (Or.inr (⟨rfl, xq, rfl⟩)) dL_newRight_8
  · have hP : va_P D vwCl (HC aI aJ h (arS st) u_3) H := hP
    have hD : va_D A (HC aI aJ h (arS st) u_3) := hD
    obtain ⟨p0_3, rfl⟩ := q_3
    refine W.widen (k := 1) (n := 6) (Nat.le_of_ble_eq_true rfl) (Nat.le_of_ble_eq_true rfl) ?_
    exact j_iret (w1 := fun u => HC aI aJ h u.1 u.2) (post := fun r u => hP_newRight st u.1 r) C ((arS st), u_3) hP hD hS (Or.inl ⟨p0_3, rfl, rfl⟩) dL_newRight_4
abbrev hP_joined (st : St) (q0 : Nat → Nat) (x : Int32) (y : Int32) (t : St) (r : Int32) : Prop := (∃ ii : Nat, ∃ jj : Nat, (ix (sNl st) x = some ii) ∧ (ix (sNr st) y = some jj) ∧ ((sE st) ii jj = false) ∧ (t = conS st ii jj q0) ∧ r = nI (b2n ((srch (adE (sE st) ii jj) (sL st) (sR st) (sNl st) (sNr st) q0).1.isSome))) ∨ (t = st ∧ (ix (sNl st) x = none ∨ ix (sNr st) y = none) ∧ r = (-9999001)) ∨ (t = st ∧ (∃ ii jj, ix (sNl st) x = some ii ∧ ix (sNr st) y = some jj ∧ (sE st) ii jj = true) ∧ r = (-9999003))
set_option maxHeartbeats 4000000 in
set_option maxRecDepth 100000 in
theorem c_L_joined (l : Launch) (hl0 : l.stackTraces = false) (D : va_G) (aI aJ aZ : ClassId) (h : Nat → Nat) (st : St) (j : Jk) (x : Int32) (y : Int32) (hi : HI st) (z0 : Nat) : Met l yL_joined wsL_joined ({ frames := 9, cells := 3, slots := 18, locals := 147 }) (va_Pc [.ref (h 0), .int x, .int y] (jXI D (jT aI aJ aZ) (HC aI aJ h st j) z0)) (va_Qi (S := St × Jk) (fun r u => hP_joined st j.2.1 x y u.1 r) (fun u t => jO D (jT aI aJ aZ) (va_A (HC aI aJ h st j) z0) (HC aI aJ h u.1 u.2) t) (va_A (HC aI aJ h st j) z0)) 3 18 (va_A (HC aI aJ h st j) z0) := by
  refine jh_of (Qc := fun A => va_Qi (S := St × Jk) (fun r u => hP_joined st j.2.1 x y u.1 r) (fun u t => jO D (jT aI aJ aZ) A (HC aI aJ h u.1 u.2) t) A) (hh := [(0, 14, 15, 23), (0, 14, 19, 13)]) (own := RL) (nm := "joined") (by decide +kernel) rfl rfl rfl (Nat.le_of_ble_eq_true rfl) ?_
  intro p e s m below meth c A ls H locs C hXs hTab hP hD hS hl
  obtain ⟨hx, hb, hml, hown, hts, hK, hA, hlocks, hr, hn, hN⟩ := id C
  have L_13 := hts (.classLink RL 13 "java/lang/IllegalStateException") (List.mem_of_getElem? (i := 2) rfl)
  have L_15 := hts (.constant RL 15 (-9999003)) (List.mem_of_getElem? (i := 4) rfl)
  have L_23 := hts (.classLink RL 23 "java/lang/IndexOutOfBoundsException") (List.mem_of_getElem? (i := 1) rfl)
  have L_25 := hts (.constant RL 25 (-9999001)) (List.mem_of_getElem? (i := 3) rfl)
  have hl : lv_has ls 4 [(0, .ref (h 0)), (1, .int x), (2, .int y)] := hl
  refine lv_aload_n hx hb dL_joined_0 rfl (lv_at hl 0 rfl) ?_
  refine lv_iload_n hx hb dL_joined_1 rfl (lv_at hl 1 rfl) ?_
  refine lv_iload_n hx hb dL_joined_2 rfl (lv_at hl 2 rfl) ?_
  refine jx_calli (vx_runV (As := [.int x, .int y]) (rest := []) C.fix (k_connect l hl0 D aI aJ aZ h st j x y hi H.size) (cwV 2 hts gL_joined_X6_connect rfl rfl rfl (by decide +kernel) ⟨Nat.le_of_ble_eq_true rfl, Nat.le_of_ble_eq_true rfl⟩) (jxPreV hXs hA hS hN hK hP hD [0, 1, 2, 3, 4, 5, 6, 7, 8, 9, 10, 11, 12, 13, 14, 15, 16, 17, 18, 19, 20] rfl rfl (by decide) (ci := 6) (q0 := 0) rfl rfl) rfl rfl hl.1 rfl (lv_room (Nat.le_of_ble_eq_true rfl)) dL_joined_3 ⟨Nat.le_of_ble_eq_true rfl, Nat.le_of_ble_eq_true rfl⟩) hA hP hD hS [0, 1, 2, 3, 4, 5, 6, 7, 8, 9, 10, 11, 12, 13, 14, 15, 16, 17, 18, 19, 20] [] (wr := []) rfl rfl (by decide) (by decide) (fun ux E9 q9 ce H locs xp hce hcv hcl hP hD hS => ?_) (fun r_3 u_3 H locs q_3 hP hD hS => ?_)
  · have hP : va_P D vwCl (HC aI aJ h st ux) H := hP
    have hD : va_D A (HC aI aJ h st ux) := hD
    have xp : (E9 = "java/lang/IndexOutOfBoundsException" ∧ (ix (sNl st) x = none ∨ ix (sNr st) y = none)) ∨ (E9 = "java/lang/IllegalStateException" ∧ (∃ ii jj, ix (sNl st) x = some ii ∧ ix (sNr st) y = some jj ∧ (sE st) ii jj = true)) := xp
    rcases xp with xp | xp
    · obtain ⟨rfl, xq⟩ := xp
      refine jh_catch0 (h0 := (0, 14, 15, 23)) hown hTab (by decide +kernel) (by decide) L_23 (hXs.1 _ (by decide)) hce hcv hcl ?_
      refine lv_astore_n (lv' := [(3, .ref q9), (0, .ref (h 0)), (1, .int x), (2, .int y)]) hx hb dL_joined_15 rfl hl (by decide) rfl (fun ls hl => ?_)
      refine lv_ldc (v := -9999001) hx hb hown L_25 dL_joined_16 ?_
      refine W.widen (k := 3) (n := 18) (Nat.le_of_ble_eq_true rfl) (Nat.le_of_ble_eq_true rfl) ?_
      exact j_iret (w1 := fun u => HC aI aJ h u.1 u.2) (post := fun r u => hP_joined st j.2.1 x y u.1 r) C (st, ux) hP hD hS (Or.inr (Or.inl ⟨rfl, xq, rfl⟩)) dL_joined_18
    · obtain ⟨rfl, xq⟩ := xp
      refine jh_catch1 (n0 := "java/lang/IndexOutOfBoundsException") (h0 := (0, 14, 15, 23)) (h1 := (0, 14, 19, 13)) hown hTab (by decide +kernel) (by decide) (by decide) L_23 (hXs.2.2.2.1 (_, _) (by decide)) L_13 (hXs.1 _ (by decide)) hce hcv hcl ?_
      refine lv_astore_n (lv' := [(3, .ref q9), (0, .ref (h 0)), (1, .int x), (2, .int y)]) hx hb dL_joined_19 rfl hl (by decide) rfl (fun ls hl => ?_)
      refine lv_ldc (v := -9999003) hx hb hown L_15 dL_joined_20 ?_
      refine W.widen (k := 3) (n := 18) (Nat.le_of_ble_eq_true rfl) (Nat.le_of_ble_eq_true rfl) ?_
      exact j_iret (w1 := fun u => HC aI aJ h u.1 u.2) (post := fun r u => hP_joined st j.2.1 x y u.1 r) C (st, ux) hP hD hS (Or.inr (Or.inr (⟨rfl, xq, rfl⟩))) dL_joined_22
  · have hP : va_P D vwCl (HC aI aJ h u_3.1 u_3.2) H := hP
    have hD : va_D A (HC aI aJ h u_3.1 u_3.2) := hD
    obtain ⟨ii_3, jj_3, p0_3, p1_3, p2_3, p3_3, rfl⟩ := q_3
    refine lv_if_eq (tgt := 13) hx hb dL_joined_6 (by decide) (fun c_6 => ?_) (fun c_6 => ?_)
    · rw [cv_b0] at c_6
      refine lv_iconst (v := nI 0) hx hb dL_joined_13 (by decide) ?_
      refine W.widen (k := 3) (n := 18) (Nat.le_of_ble_eq_true rfl) (Nat.le_of_ble_eq_true rfl) ?_
      exact j_iret (w1 := fun u => HC aI aJ h u.1 u.2) (post := fun r u => hP_joined st j.2.1 x y u.1 r) C u_3 hP hD hS (Or.inl ⟨ii_3, jj_3, p0_3, p1_3, p2_3, p3_3, by rw [c_6] <;> rfl⟩) dL_joined_14
    · rw [cv_b0, cv_nb] at c_6
      refine lv_iconst (v := nI 1) hx hb dL_joined_9 (by decide) ?_
      refine lv_goto (tgt := 14) hx hb dL_joined_10 (by decide) ?_
      refine W.widen (k := 3) (n := 18) (Nat.le_of_ble_eq_true rfl) (Nat.le_of_ble_eq_true rfl) ?_
      exact j_iret (w1 := fun u => HC aI aJ h u.1 u.2) (post := fun r u => hP_joined st j.2.1 x y u.1 r) C u_3 hP hD hS (Or.inl ⟨ii_3, jj_3, p0_3, p1_3, p2_3, p3_3, by rw [c_6] <;> rfl⟩) dL_joined_14
abbrev hP_parted (st : St) (q0 : Nat → Nat) (x : Int32) (y : Int32) (t : St) (r : Int32) : Prop := (∃ ii : Nat, ∃ jj : Nat, (ix (sNl st) x = some ii) ∧ (ix (sNr st) y = some jj) ∧ ((sE st) ii jj = true) ∧ (t = disS st ii jj q0) ∧ r = nI (b2n (if (sL st) ii = some jj then !(dcS (sE st) (sL st) (sR st) (sNl st) (sNr st) ii jj q0).1.isSome else false))) ∨ (t = st ∧ (ix (sNl st) x = none ∨ ix (sNr st) y = none) ∧ r = (-9999001)) ∨ (t = st ∧ (∃ ii jj, ix (sNl st) x = some ii ∧ ix (sNr st) y = some jj ∧ (sE st) ii jj = false) ∧ r = (-9999004))
set_option maxHeartbeats 4000000 in
set_option maxRecDepth 100000 in
theorem c_L_parted (l : Launch) (hl0 : l.stackTraces = false) (D : va_G) (aI aJ aZ : ClassId) (h : Nat → Nat) (st : St) (j : Jk) (x : Int32) (y : Int32) (hi : HI st) (z0 : Nat) : Met l yL_parted wsL_parted ({ frames := 10, cells := 3, slots := 18, locals := 169 }) (va_Pc [.ref (h 0), .int x, .int y] (jXI D (jT aI aJ aZ) (HC aI aJ h st j) z0)) (va_Qi (S := St × Jk) (fun r u => hP_parted st j.2.1 x y u.1 r) (fun u t => jO D (jT aI aJ aZ) (va_A (HC aI aJ h st j) z0) (HC aI aJ h u.1 u.2) t) (va_A (HC aI aJ h st j) z0)) 3 18 (va_A (HC aI aJ h st j) z0) := by
  refine jh_of (Qc := fun A => va_Qi (S := St × Jk) (fun r u => hP_parted st j.2.1 x y u.1 r) (fun u t => jO D (jT aI aJ aZ) A (HC aI aJ h u.1 u.2) t) A) (hh := [(0, 14, 15, 23), (0, 14, 19, 29)]) (own := RL) (nm := "parted") (by decide +kernel) rfl rfl rfl (Nat.le_of_ble_eq_true rfl) ?_
  intro p e s m below meth c A ls H locs C hXs hTab hP hD hS hl
  obtain ⟨hx, hb, hml, hown, hts, hK, hA, hlocks, hr, hn, hN⟩ := id C
  have L_23 := hts (.classLink RL 23 "java/lang/IndexOutOfBoundsException") (List.mem_of_getElem? (i := 1) rfl)
  have L_25 := hts (.constant RL 25 (-9999001)) (List.mem_of_getElem? (i := 3) rfl)
  have L_29 := hts (.classLink RL 29 "java/util/NoSuchElementException") (List.mem_of_getElem? (i := 2) rfl)
  have L_31 := hts (.constant RL 31 (-9999004)) (List.mem_of_getElem? (i := 4) rfl)
  have hl : lv_has ls 4 [(0, .ref (h 0)), (1, .int x), (2, .int y)] := hl
  refine lv_aload_n hx hb dL_parted_0 rfl (lv_at hl 0 rfl) ?_
  refine lv_iload_n hx hb dL_parted_1 rfl (lv_at hl 1 rfl) ?_
  refine lv_iload_n hx hb dL_parted_2 rfl (lv_at hl 2 rfl) ?_
  refine jx_calli (vx_runV (As := [.int x, .int y]) (rest := []) C.fix (k_disconnect l hl0 D aI aJ aZ h st j x y hi H.size) (cwV 2 hts gL_parted_X6_disconnect rfl rfl rfl (by decide +kernel) ⟨Nat.le_of_ble_eq_true rfl, Nat.le_of_ble_eq_true rfl⟩) (jxPreV hXs hA hS hN hK hP hD [0, 1, 2, 3, 4, 5, 6, 7, 8, 9, 10, 11, 12, 13, 14, 15, 16, 17, 18, 19, 20] rfl rfl (by decide) (ci := 6) (q0 := 0) rfl rfl) rfl rfl hl.1 rfl (lv_room (Nat.le_of_ble_eq_true rfl)) dL_parted_3 ⟨Nat.le_of_ble_eq_true rfl, Nat.le_of_ble_eq_true rfl⟩) hA hP hD hS [0, 1, 2, 3, 4, 5, 6, 7, 8, 9, 10, 11, 12, 13, 14, 15, 16, 17, 18, 19, 20] [] (wr := []) rfl rfl (by decide) (by decide) (fun ux E9 q9 ce H locs xp hce hcv hcl hP hD hS => ?_) (fun r_3 u_3 H locs q_3 hP hD hS => ?_)
  · have hP : va_P D vwCl (HC aI aJ h st ux) H := hP
    have hD : va_D A (HC aI aJ h st ux) := hD
    have xp : (E9 = "java/lang/IndexOutOfBoundsException" ∧ (ix (sNl st) x = none ∨ ix (sNr st) y = none)) ∨ (E9 = "java/util/NoSuchElementException" ∧ (∃ ii jj, ix (sNl st) x = some ii ∧ ix (sNr st) y = some jj ∧ (sE st) ii jj = false)) := xp
    rcases xp with xp | xp
    · obtain ⟨rfl, xq⟩ := xp
      refine jh_catch0 (h0 := (0, 14, 15, 23)) hown hTab (by decide +kernel) (by decide) L_23 (hXs.1 _ (by decide)) hce hcv hcl ?_
      refine lv_astore_n (lv' := [(3, .ref q9), (0, .ref (h 0)), (1, .int x), (2, .int y)]) hx hb dL_parted_15 rfl hl (by decide) rfl (fun ls hl => ?_)
      refine lv_ldc (v := -9999001) hx hb hown L_25 dL_parted_16 ?_
      refine W.widen (k := 3) (n := 18) (Nat.le_of_ble_eq_true rfl) (Nat.le_of_ble_eq_true rfl) ?_
      exact j_iret (w1 := fun u => HC aI aJ h u.1 u.2) (post := fun r u => hP_parted st j.2.1 x y u.1 r) C (st, ux) hP hD hS (Or.inr (Or.inl ⟨rfl, xq, rfl⟩)) dL_parted_18
    · obtain ⟨rfl, xq⟩ := xp
      refine jh_catch1 (n0 := "java/lang/IndexOutOfBoundsException") (h0 := (0, 14, 15, 23)) (h1 := (0, 14, 19, 29)) hown hTab (by decide +kernel) (by decide) (by decide) L_23 (hXs.2.2.2.1 (_, _) (by decide)) L_29 (hXs.1 _ (by decide)) hce hcv hcl ?_
      refine lv_astore_n (lv' := [(3, .ref q9), (0, .ref (h 0)), (1, .int x), (2, .int y)]) hx hb dL_parted_19 rfl hl (by decide) rfl (fun ls hl => ?_)
      refine lv_ldc (v := -9999004) hx hb hown L_31 dL_parted_20 ?_
      refine W.widen (k := 3) (n := 18) (Nat.le_of_ble_eq_true rfl) (Nat.le_of_ble_eq_true rfl) ?_
      exact j_iret (w1 := fun u => HC aI aJ h u.1 u.2) (post := fun r u => hP_parted st j.2.1 x y u.1 r) C (st, ux) hP hD hS (Or.inr (Or.inr (⟨rfl, xq, rfl⟩))) dL_parted_22
  · have hP : va_P D vwCl (HC aI aJ h u_3.1 u_3.2) H := hP
    have hD : va_D A (HC aI aJ h u_3.1 u_3.2) := hD
    obtain ⟨ii_3, jj_3, p0_3, p1_3, p2_3, p3_3, rfl⟩ := q_3
    refine lv_if_eq (tgt := 13) hx hb dL_parted_6 (by decide) (fun c_6 => ?_) (fun c_6 => ?_)
    · rw [cv_b0] at c_6
      refine lv_iconst (v := nI 0) hx hb dL_parted_13 (by decide) ?_
      refine W.widen (k := 3) (n := 18) (Nat.le_of_ble_eq_true rfl) (Nat.le_of_ble_eq_true rfl) ?_
      exact j_iret (w1 := fun u => HC aI aJ h u.1 u.2) (post := fun r u => hP_parted st j.2.1 x y u.1 r) C u_3 hP hD hS (Or.inl ⟨ii_3, jj_3, p0_3, p1_3, p2_3, p3_3, by rw [c_6] <;> rfl⟩) dL_parted_14
    · rw [cv_b0, cv_nb] at c_6
      refine lv_iconst (v := nI 1) hx hb dL_parted_9 (by decide) ?_
      refine lv_goto (tgt := 14) hx hb dL_parted_10 (by decide) ?_
      refine W.widen (k := 3) (n := 18) (Nat.le_of_ble_eq_true rfl) (Nat.le_of_ble_eq_true rfl) ?_
      exact j_iret (w1 := fun u => HC aI aJ h u.1 u.2) (post := fun r u => hP_parted st j.2.1 x y u.1 r) C u_3 hP hD hS (Or.inl ⟨ii_3, jj_3, p0_3, p1_3, p2_3, p3_3, by rw [c_6] <;> rfl⟩) dL_parted_14
abbrev hP_has (st : St) (x : Int32) (y : Int32) (r : Int32) : Prop := (∃ ii : Nat, ∃ jj : Nat, (ix (sNl st) x = some ii) ∧ (ix (sNr st) y = some jj) ∧ r = nI (b2n ((sE st) ii jj))) ∨ ((ix (sNl st) x = none ∨ ix (sNr st) y = none) ∧ r = (-9999001))
set_option maxHeartbeats 4000000 in
set_option maxRecDepth 100000 in
theorem c_L_has (l : Launch) (hl0 : l.stackTraces = false) (D : va_G) (aI aJ aZ : ClassId) (h : Nat → Nat) (st : St) (j : Jk) (x : Int32) (y : Int32) (hi : HI st) (z0 : Nat) : Met l yL_has wsL_has ({ frames := 9, cells := 2, slots := 12, locals := 147 }) (va_Pc [.ref (h 0), .int x, .int y] (jXI D (jT aI aJ aZ) (HC aI aJ h st j) z0)) (va_Qi (S := Jk) (fun r u => hP_has st x y r) (fun u t => jO D (jT aI aJ aZ) (va_A (HC aI aJ h st j) z0) (HC aI aJ h st u) t) (va_A (HC aI aJ h st j) z0)) 2 12 (va_A (HC aI aJ h st j) z0) := by
  refine jh_of (Qc := fun A => va_Qi (S := Jk) (fun r u => hP_has st x y r) (fun u t => jO D (jT aI aJ aZ) A (HC aI aJ h st u) t) A) (hh := [(0, 14, 15, 23)]) (own := RL) (nm := "has") (by decide +kernel) rfl rfl rfl (Nat.le_of_ble_eq_true rfl) ?_
  intro p e s m below meth c A ls H locs C hXs hTab hP hD hS hl
  obtain ⟨hx, hb, hml, hown, hts, hK, hA, hlocks, hr, hn, hN⟩ := id C
  have L_23 := hts (.classLink RL 23 "java/lang/IndexOutOfBoundsException") (List.mem_of_getElem? (i := 1) rfl)
  have L_25 := hts (.constant RL 25 (-9999001)) (List.mem_of_getElem? (i := 2) rfl)
  have hl : lv_has ls 4 [(0, .ref (h 0)), (1, .int x), (2, .int y)] := hl
  refine lv_aload_n hx hb dL_has_0 rfl (lv_at hl 0 rfl) ?_
  refine lv_iload_n hx hb dL_has_1 rfl (lv_at hl 1 rfl) ?_
  refine lv_iload_n hx hb dL_has_2 rfl (lv_at hl 2 rfl) ?_
  refine jx_calli (vx_runV (As := [.int x, .int y]) (rest := []) C.fix (k_hasEdge l hl0 D aI aJ aZ h st j x y hi H.size) (cwV 2 hts gL_has_X6_hasEdge rfl rfl rfl (by decide +kernel) ⟨Nat.le_of_ble_eq_true rfl, Nat.le_of_ble_eq_true rfl⟩) (jxPreV hXs hA hS hN hK hP hD [0, 1, 2, 3, 4, 5, 6, 7, 8, 9, 10, 11, 12, 13, 14, 15, 16, 17, 18, 19, 20] rfl rfl (by decide) (ci := 6) (q0 := 0) rfl rfl) rfl rfl hl.1 rfl (lv_room (Nat.le_of_ble_eq_true rfl)) dL_has_3 ⟨Nat.le_of_ble_eq_true rfl, Nat.le_of_ble_eq_true rfl⟩) hA hP hD hS [0, 1, 2, 3, 4, 5, 6, 7, 8, 9, 10, 11, 12, 13, 14, 15, 16, 17, 18, 19, 20] [] (wr := []) rfl rfl (by decide) (by decide) (fun ux E9 q9 ce H locs xp hce hcv hcl hP hD hS => ?_) (fun r_3 u_3 H locs q_3 hP hD hS => ?_)
  · have hP : va_P D vwCl (HC aI aJ h st ux) H := hP
    have hD : va_D A (HC aI aJ h st ux) := hD
    have xp : (E9 = "java/lang/IndexOutOfBoundsException" ∧ (ix (sNl st) x = none ∨ ix (sNr st) y = none)) := xp
    obtain ⟨rfl, xq⟩ := xp
    refine jh_catch0 (h0 := (0, 14, 15, 23)) hown hTab (by decide +kernel) (by decide) L_23 (hXs.1 _ (by decide)) hce hcv hcl ?_
    refine lv_astore_n (lv' := [(3, .ref q9), (0, .ref (h 0)), (1, .int x), (2, .int y)]) hx hb dL_has_15 rfl hl (by decide) rfl (fun ls hl => ?_)
    refine lv_ldc (v := -9999001) hx hb hown L_25 dL_has_16 ?_
    refine W.widen (k := 2) (n := 12) (Nat.le_of_ble_eq_true rfl) (Nat.le_of_ble_eq_true rfl) ?_
    exact j_iret (w1 := fun u => HC aI aJ h st u) (post := fun r u => hP_has st x y r) C ux hP hD hS (Or.inr (⟨xq, rfl⟩)) dL_has_18
  · have hP : va_P D vwCl (HC aI aJ h st u_3) H := hP
    have hD : va_D A (HC aI aJ h st u_3) := hD
    obtain ⟨ii_3, jj_3, p0_3, p1_3, rfl⟩ := q_3
    refine lv_if_eq (tgt := 13) hx hb dL_has_6 (by decide) (fun c_6 => ?_) (fun c_6 => ?_)
    · rw [cv_b0] at c_6
      refine lv_iconst (v := nI 0) hx hb dL_has_13 (by decide) ?_
      refine W.widen (k := 2) (n := 12) (Nat.le_of_ble_eq_true rfl) (Nat.le_of_ble_eq_true rfl) ?_
      exact j_iret (w1 := fun u => HC aI aJ h st u) (post := fun r u => hP_has st x y r) C u_3 hP hD hS (Or.inl ⟨ii_3, jj_3, p0_3, p1_3, by rw [c_6] <;> rfl⟩) dL_has_14
    · rw [cv_b0, cv_nb] at c_6
      refine lv_iconst (v := nI 1) hx hb dL_has_9 (by decide) ?_
      refine lv_goto (tgt := 14) hx hb dL_has_10 (by decide) ?_
      refine W.widen (k := 2) (n := 12) (Nat.le_of_ble_eq_true rfl) (Nat.le_of_ble_eq_true rfl) ?_
      exact j_iret (w1 := fun u => HC aI aJ h st u) (post := fun r u => hP_has st x y r) C u_3 hP hD hS (Or.inl ⟨ii_3, jj_3, p0_3, p1_3, by rw [c_6] <;> rfl⟩) dL_has_14
