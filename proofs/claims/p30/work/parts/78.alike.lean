/-! a library and its mirror are alike -/
abbrev W2 (aI aJ : ClassId) (h g : Nat → Nat) (st tt : St) (j jt : Jk) : va_W := HC aI aJ h st j ++ HC aI aJ g tt jt
section ALS
variable {p : Program} {e : Env} {R : Room} {s : State} {m : MethodId} {args : Array Value} {below : List Frame} {meth : Method} {c : Code} {Q : State → Prop} {D : va_G} {aI aJ aZ : ClassId} {A : Nat → Prop} {nm : String} {H : Heap} {locs : List Loc} {cells slots : Nat} {ls : Array Slot} {h g : Nat → Nat} {st tt : St} {j jt : Jk} {x k i jj cv : Nat}
set_option maxHeartbeats 4000000 in
set_option maxRecDepth 100000 in
theorem al_A  (l : Launch) (hl0 : l.stackTraces = false) (hRf : 22 ≤ R.frames) (hRl : 600 ≤ R.locals) (C : jC p s m meth c cL_alike 9 (some .boolean) RL wsL_alike D (jT aI aJ aZ) args A nm) (hXs : jXs A s s.heap) (u : TU st tt)  (hP : va_P D vwCl (HC aI aJ h st j ++ (HC aI aJ g tt jt)) H) (hD : va_D A (HC aI aJ h st j ++ (HC aI aJ g tt jt))) (hS : va_S A s.heap H locs) (hl : lv_has ls 9 [(0, .ref (h 0)), (1, .ref (g 0)), (2, .int (nI x))]) (hRc : cells + 0 ≤ R.cells) (hRs : slots + 0 ≤ R.slots) (kk : ∀ (j jt : Jk) (H : Heap) (locs : List Loc) (ls : Array Slot) (c1 s1 : Nat), va_P D vwCl (HC aI aJ h st j ++ (HC aI aJ g tt jt)) H → va_D A (HC aI aJ h st j ++ (HC aI aJ g tt jt)) → va_S A s.heap H locs → lv_has ls 9 [(0, .ref (h 0)), (1, .ref (g 0)), (2, .int (nI x)), (3, .int (nI 1)), (4, .int (nI 0)), (5, .int (nI 0))] → c1 ≤ cells + 0 → s1 ≤ slots + 0 → W p l e R s m args below meth c H locs c1 s1 Q (F0 m 122 ls [])) : W p l e R s m args below meth c H locs cells slots Q (F0 m 0 ls []) := by
  obtain ⟨hx, hb, hml, hown, hts, hK, hA, hlocks, hr, hn, hN⟩ := id C
  have hi := u.hs
  have hj := u.ht
  have hnl := u.hnl
  have hnr := u.hnr
  have hle : sN st ≤ sNl st := by rw [u.other.2.2.2.1]; exact sz_le _ _
  have hmL := u.hs.b12
  have hmR := u.hs.r12
  have htl : sNl tt ≤ 12 := u.ht.1
  have htr : sNr tt ≤ 12 := u.ht.2.1
  have hle2 : sN st ≤ sNr st := by
      have a := u.ht.2.2.2.2.1
      have b := sz_le (sNl tt) (sL tt)
      have c := u.n
      have d := u.nl
      omega
  refine lv_aload_n hx hb dL_alike_0 rfl (lv_at hl 0 rfl) ?_
  refine j_calli (va_runV (As := []) (rest := []) C.fix (k_lefts l D aI aJ aZ h st j hi H.size) (cwV 0 hts gL_alike_X6_lefts rfl rfl rfl (by decide +kernel) ⟨Nat.le_trans (m := 22) (Nat.le_of_ble_eq_true rfl) hRf, Nat.le_trans (m := 600) (Nat.le_of_ble_eq_true rfl) hRl⟩) (jPreV hN hK hP hD [0, 1, 2, 3, 4, 5, 6, 7, 8, 9, 10, 11, 12, 13, 14, 15, 16, 17, 18, 19, 20] rfl rfl (by decide) (ci := 6) (q0 := 0) rfl rfl) rfl rfl hl.1 rfl (lv_room (Nat.le_of_ble_eq_true rfl)) dL_alike_1 ⟨by omega, by omega⟩) hA hP hD hS [0, 1, 2, 3, 4, 5, 6, 7, 8, 9, 10, 11, 12, 13, 14, 15, 16, 17, 18, 19, 20] [21, 22, 23, 24, 25, 26, 27, 28, 29, 30, 31, 32, 33, 34, 35, 36, 37, 38, 39, 40, 41] (wr := HC aI aJ g tt jt) rfl rfl (by decide) (by decide) (fun r_1 u_1 H locs q_1 hP hD hS => ?_)
  have hP := hP.sub (ws' := HC aI aJ h st u_1 ++ (HC aI aJ g tt jt)) [21, 22, 23, 24, 25, 26, 27, 28, 29, 30, 31, 32, 33, 34, 35, 36, 37, 38, 39, 40, 41, 0, 1, 2, 3, 4, 5, 6, 7, 8, 9, 10, 11, 12, 13, 14, 15, 16, 17, 18, 19, 20] rfl
  have hD := hD.sub (ws' := HC aI aJ h st u_1 ++ (HC aI aJ g tt jt)) [21, 22, 23, 24, 25, 26, 27, 28, 29, 30, 31, 32, 33, 34, 35, 36, 37, 38, 39, 40, 41, 0, 1, 2, 3, 4, 5, 6, 7, 8, 9, 10, 11, 12, 13, 14, 15, 16, 17, 18, 19, 20] (by decide) rfl
  have hP : va_P D vwCl (HC aI aJ h st u_1 ++ (HC aI aJ g tt jt)) H := hP
  have hD : va_D A (HC aI aJ h st u_1 ++ (HC aI aJ g tt jt)) := hD
  refine j_topi (y := nI (sNl st)) (q_1) ?_
  refine lv_aload_n hx hb dL_alike_4 rfl (lv_at hl 1 rfl) ?_
  refine j_calli (va_runV (As := []) (rest := [.int (nI (sNl st))]) C.fix (k_rights l D aI aJ aZ g tt jt hj H.size) (cwV 0 hts gL_alike_X6_rights rfl rfl rfl (by decide +kernel) ⟨Nat.le_trans (m := 22) (Nat.le_of_ble_eq_true rfl) hRf, Nat.le_trans (m := 600) (Nat.le_of_ble_eq_true rfl) hRl⟩) (jPreV hN hK hP hD [21, 22, 23, 24, 25, 26, 27, 28, 29, 30, 31, 32, 33, 34, 35, 36, 37, 38, 39, 40, 41] rfl rfl (by decide) (ci := 6) (q0 := 21) rfl rfl) rfl rfl hl.1 rfl (lv_room (Nat.le_of_ble_eq_true rfl)) dL_alike_5 ⟨by omega, by omega⟩) hA hP hD hS [21, 22, 23, 24, 25, 26, 27, 28, 29, 30, 31, 32, 33, 34, 35, 36, 37, 38, 39, 40, 41] [0, 1, 2, 3, 4, 5, 6, 7, 8, 9, 10, 11, 12, 13, 14, 15, 16, 17, 18, 19, 20] (wr := HC aI aJ h st u_1) rfl rfl (by decide) (by decide) (fun r_5 u_5 H locs q_5 hP hD hS => ?_)
  have hP : va_P D vwCl (HC aI aJ h st u_1 ++ (HC aI aJ g tt u_5)) H := hP
  have hD : va_D A (HC aI aJ h st u_1 ++ (HC aI aJ g tt u_5)) := hD
  refine j_topi (y := nI (sNl st)) (q_5.trans (congrArg nI u.nr)) ?_
  refine lv_icmp_ne (tgt := 114) hx hb dL_alike_8 (by decide) (fun c_8 => ?_) (fun c_8 => ?_)
  · exact absurd rfl c_8
  · clear c_8
    refine lv_aload_n hx hb dL_alike_11 rfl (lv_at hl 0 rfl) ?_
    refine j_calli (va_runV (As := []) (rest := []) C.fix (k_rights l D aI aJ aZ h st u_1 hi H.size) (cwV 0 hts gL_alike_X6_rights rfl rfl rfl (by decide +kernel) ⟨Nat.le_trans (m := 22) (Nat.le_of_ble_eq_true rfl) hRf, Nat.le_trans (m := 600) (Nat.le_of_ble_eq_true rfl) hRl⟩) (jPreV hN hK hP hD [0, 1, 2, 3, 4, 5, 6, 7, 8, 9, 10, 11, 12, 13, 14, 15, 16, 17, 18, 19, 20] rfl rfl (by decide) (ci := 6) (q0 := 0) rfl rfl) rfl rfl hl.1 rfl (lv_room (Nat.le_of_ble_eq_true rfl)) dL_alike_12 ⟨by omega, by omega⟩) hA hP hD hS [0, 1, 2, 3, 4, 5, 6, 7, 8, 9, 10, 11, 12, 13, 14, 15, 16, 17, 18, 19, 20] [21, 22, 23, 24, 25, 26, 27, 28, 29, 30, 31, 32, 33, 34, 35, 36, 37, 38, 39, 40, 41] (wr := HC aI aJ g tt u_5) rfl rfl (by decide) (by decide) (fun r_12 u_12 H locs q_12 hP hD hS => ?_)
    have hP := hP.sub (ws' := HC aI aJ h st u_12 ++ (HC aI aJ g tt u_5)) [21, 22, 23, 24, 25, 26, 27, 28, 29, 30, 31, 32, 33, 34, 35, 36, 37, 38, 39, 40, 41, 0, 1, 2, 3, 4, 5, 6, 7, 8, 9, 10, 11, 12, 13, 14, 15, 16, 17, 18, 19, 20] rfl
    have hD := hD.sub (ws' := HC aI aJ h st u_12 ++ (HC aI aJ g tt u_5)) [21, 22, 23, 24, 25, 26, 27, 28, 29, 30, 31, 32, 33, 34, 35, 36, 37, 38, 39, 40, 41, 0, 1, 2, 3, 4, 5, 6, 7, 8, 9, 10, 11, 12, 13, 14, 15, 16, 17, 18, 19, 20] (by decide) rfl
    have hP : va_P D vwCl (HC aI aJ h st u_12 ++ (HC aI aJ g tt u_5)) H := hP
    have hD : va_D A (HC aI aJ h st u_12 ++ (HC aI aJ g tt u_5)) := hD
    refine j_topi (y := nI (sNr st)) (q_12) ?_
    refine lv_aload_n hx hb dL_alike_15 rfl (lv_at hl 1 rfl) ?_
    refine j_calli (va_runV (As := []) (rest := [.int (nI (sNr st))]) C.fix (k_lefts l D aI aJ aZ g tt u_5 hj H.size) (cwV 0 hts gL_alike_X6_lefts rfl rfl rfl (by decide +kernel) ⟨Nat.le_trans (m := 22) (Nat.le_of_ble_eq_true rfl) hRf, Nat.le_trans (m := 600) (Nat.le_of_ble_eq_true rfl) hRl⟩) (jPreV hN hK hP hD [21, 22, 23, 24, 25, 26, 27, 28, 29, 30, 31, 32, 33, 34, 35, 36, 37, 38, 39, 40, 41] rfl rfl (by decide) (ci := 6) (q0 := 21) rfl rfl) rfl rfl hl.1 rfl (lv_room (Nat.le_of_ble_eq_true rfl)) dL_alike_16 ⟨by omega, by omega⟩) hA hP hD hS [21, 22, 23, 24, 25, 26, 27, 28, 29, 30, 31, 32, 33, 34, 35, 36, 37, 38, 39, 40, 41] [0, 1, 2, 3, 4, 5, 6, 7, 8, 9, 10, 11, 12, 13, 14, 15, 16, 17, 18, 19, 20] (wr := HC aI aJ h st u_12) rfl rfl (by decide) (by decide) (fun r_16 u_16 H locs q_16 hP hD hS => ?_)
    have hP : va_P D vwCl (HC aI aJ h st u_12 ++ (HC aI aJ g tt u_16)) H := hP
    have hD : va_D A (HC aI aJ h st u_12 ++ (HC aI aJ g tt u_16)) := hD
    refine j_topi (y := nI (sNr st)) (q_16.trans (congrArg nI u.nl)) ?_
    refine lv_icmp_ne (tgt := 114) hx hb dL_alike_19 (by decide) (fun c_19 => ?_) (fun c_19 => ?_)
    · exact absurd rfl c_19
    · clear c_19
      refine lv_aload_n hx hb dL_alike_22 rfl (lv_at hl 0 rfl) ?_
      refine j_calli (va_runV (As := []) (rest := []) C.fix (k_edges l D aI aJ aZ h st u_12 hi H.size) (cwV 0 hts gL_alike_X6_edges rfl rfl rfl (by decide +kernel) ⟨Nat.le_trans (m := 22) (Nat.le_of_ble_eq_true rfl) hRf, Nat.le_trans (m := 600) (Nat.le_of_ble_eq_true rfl) hRl⟩) (jPreV hN hK hP hD [0, 1, 2, 3, 4, 5, 6, 7, 8, 9, 10, 11, 12, 13, 14, 15, 16, 17, 18, 19, 20] rfl rfl (by decide) (ci := 6) (q0 := 0) rfl rfl) rfl rfl hl.1 rfl (lv_room (Nat.le_of_ble_eq_true rfl)) dL_alike_23 ⟨by omega, by omega⟩) hA hP hD hS [0, 1, 2, 3, 4, 5, 6, 7, 8, 9, 10, 11, 12, 13, 14, 15, 16, 17, 18, 19, 20] [21, 22, 23, 24, 25, 26, 27, 28, 29, 30, 31, 32, 33, 34, 35, 36, 37, 38, 39, 40, 41] (wr := HC aI aJ g tt u_16) rfl rfl (by decide) (by decide) (fun r_23 u_23 H locs q_23 hP hD hS => ?_)
      have hP := hP.sub (ws' := HC aI aJ h st u_23 ++ (HC aI aJ g tt u_16)) [21, 22, 23, 24, 25, 26, 27, 28, 29, 30, 31, 32, 33, 34, 35, 36, 37, 38, 39, 40, 41, 0, 1, 2, 3, 4, 5, 6, 7, 8, 9, 10, 11, 12, 13, 14, 15, 16, 17, 18, 19, 20] rfl
      have hD := hD.sub (ws' := HC aI aJ h st u_23 ++ (HC aI aJ g tt u_16)) [21, 22, 23, 24, 25, 26, 27, 28, 29, 30, 31, 32, 33, 34, 35, 36, 37, 38, 39, 40, 41, 0, 1, 2, 3, 4, 5, 6, 7, 8, 9, 10, 11, 12, 13, 14, 15, 16, 17, 18, 19, 20] (by decide) rfl
      have hP : va_P D vwCl (HC aI aJ h st u_23 ++ (HC aI aJ g tt u_16)) H := hP
      have hD : va_D A (HC aI aJ h st u_23 ++ (HC aI aJ g tt u_16)) := hD
      refine j_topi (y := nI (sNe st)) (q_23) ?_
      refine lv_aload_n hx hb dL_alike_26 rfl (lv_at hl 1 rfl) ?_
      refine j_calli (va_runV (As := []) (rest := [.int (nI (sNe st))]) C.fix (k_edges l D aI aJ aZ g tt u_16 hj H.size) (cwV 0 hts gL_alike_X6_edges rfl rfl rfl (by decide +kernel) ⟨Nat.le_trans (m := 22) (Nat.le_of_ble_eq_true rfl) hRf, Nat.le_trans (m := 600) (Nat.le_of_ble_eq_true rfl) hRl⟩) (jPreV hN hK hP hD [21, 22, 23, 24, 25, 26, 27, 28, 29, 30, 31, 32, 33, 34, 35, 36, 37, 38, 39, 40, 41] rfl rfl (by decide) (ci := 6) (q0 := 21) rfl rfl) rfl rfl hl.1 rfl (lv_room (Nat.le_of_ble_eq_true rfl)) dL_alike_27 ⟨by omega, by omega⟩) hA hP hD hS [21, 22, 23, 24, 25, 26, 27, 28, 29, 30, 31, 32, 33, 34, 35, 36, 37, 38, 39, 40, 41] [0, 1, 2, 3, 4, 5, 6, 7, 8, 9, 10, 11, 12, 13, 14, 15, 16, 17, 18, 19, 20] (wr := HC aI aJ h st u_23) rfl rfl (by decide) (by decide) (fun r_27 u_27 H locs q_27 hP hD hS => ?_)
      have hP : va_P D vwCl (HC aI aJ h st u_23 ++ (HC aI aJ g tt u_27)) H := hP
      have hD : va_D A (HC aI aJ h st u_23 ++ (HC aI aJ g tt u_27)) := hD
      refine j_topi (y := nI (sNe st)) (q_27.trans (congrArg nI u.ne)) ?_
      refine lv_icmp_ne (tgt := 114) hx hb dL_alike_30 (by decide) (fun c_30 => ?_) (fun c_30 => ?_)
      · exact absurd rfl c_30
      · clear c_30
        refine lv_aload_n hx hb dL_alike_33 rfl (lv_at hl 0 rfl) ?_
        refine j_calli (va_runV (As := []) (rest := []) C.fix (k_size l D aI aJ aZ h st u_23 hi H.size) (cwV 0 hts gL_alike_X6_size rfl rfl rfl (by decide +kernel) ⟨Nat.le_trans (m := 22) (Nat.le_of_ble_eq_true rfl) hRf, Nat.le_trans (m := 600) (Nat.le_of_ble_eq_true rfl) hRl⟩) (jPreV hN hK hP hD [0, 1, 2, 3, 4, 5, 6, 7, 8, 9, 10, 11, 12, 13, 14, 15, 16, 17, 18, 19, 20] rfl rfl (by decide) (ci := 6) (q0 := 0) rfl rfl) rfl rfl hl.1 rfl (lv_room (Nat.le_of_ble_eq_true rfl)) dL_alike_34 ⟨by omega, by omega⟩) hA hP hD hS [0, 1, 2, 3, 4, 5, 6, 7, 8, 9, 10, 11, 12, 13, 14, 15, 16, 17, 18, 19, 20] [21, 22, 23, 24, 25, 26, 27, 28, 29, 30, 31, 32, 33, 34, 35, 36, 37, 38, 39, 40, 41] (wr := HC aI aJ g tt u_27) rfl rfl (by decide) (by decide) (fun r_34 u_34 H locs q_34 hP hD hS => ?_)
        have hP := hP.sub (ws' := HC aI aJ h st u_34 ++ (HC aI aJ g tt u_27)) [21, 22, 23, 24, 25, 26, 27, 28, 29, 30, 31, 32, 33, 34, 35, 36, 37, 38, 39, 40, 41, 0, 1, 2, 3, 4, 5, 6, 7, 8, 9, 10, 11, 12, 13, 14, 15, 16, 17, 18, 19, 20] rfl
        have hD := hD.sub (ws' := HC aI aJ h st u_34 ++ (HC aI aJ g tt u_27)) [21, 22, 23, 24, 25, 26, 27, 28, 29, 30, 31, 32, 33, 34, 35, 36, 37, 38, 39, 40, 41, 0, 1, 2, 3, 4, 5, 6, 7, 8, 9, 10, 11, 12, 13, 14, 15, 16, 17, 18, 19, 20] (by decide) rfl
        have hP : va_P D vwCl (HC aI aJ h st u_34 ++ (HC aI aJ g tt u_27)) H := hP
        have hD : va_D A (HC aI aJ h st u_34 ++ (HC aI aJ g tt u_27)) := hD
        refine j_topi (y := nI (sN st)) (q_34) ?_
        refine lv_aload_n hx hb dL_alike_37 rfl (lv_at hl 1 rfl) ?_
        refine j_calli (va_runV (As := []) (rest := [.int (nI (sN st))]) C.fix (k_size l D aI aJ aZ g tt u_27 hj H.size) (cwV 0 hts gL_alike_X6_size rfl rfl rfl (by decide +kernel) ⟨Nat.le_trans (m := 22) (Nat.le_of_ble_eq_true rfl) hRf, Nat.le_trans (m := 600) (Nat.le_of_ble_eq_true rfl) hRl⟩) (jPreV hN hK hP hD [21, 22, 23, 24, 25, 26, 27, 28, 29, 30, 31, 32, 33, 34, 35, 36, 37, 38, 39, 40, 41] rfl rfl (by decide) (ci := 6) (q0 := 21) rfl rfl) rfl rfl hl.1 rfl (lv_room (Nat.le_of_ble_eq_true rfl)) dL_alike_38 ⟨by omega, by omega⟩) hA hP hD hS [21, 22, 23, 24, 25, 26, 27, 28, 29, 30, 31, 32, 33, 34, 35, 36, 37, 38, 39, 40, 41] [0, 1, 2, 3, 4, 5, 6, 7, 8, 9, 10, 11, 12, 13, 14, 15, 16, 17, 18, 19, 20] (wr := HC aI aJ h st u_34) rfl rfl (by decide) (by decide) (fun r_38 u_38 H locs q_38 hP hD hS => ?_)
        have hP : va_P D vwCl (HC aI aJ h st u_34 ++ (HC aI aJ g tt u_38)) H := hP
        have hD : va_D A (HC aI aJ h st u_34 ++ (HC aI aJ g tt u_38)) := hD
        refine j_topi (y := nI (sN st)) (q_38.trans (congrArg nI u.n)) ?_
        refine lv_icmp_ne (tgt := 114) hx hb dL_alike_41 (by decide) (fun c_41 => ?_) (fun c_41 => ?_)
        · exact absurd rfl c_41
        · clear c_41
          refine lv_aload_n hx hb dL_alike_44 rfl (lv_at hl 0 rfl) ?_
          refine j_calll (va_runV (As := []) (rest := []) C.fix (k_largestMatchings l D aI aJ aZ h st u_34 hi H.size) (cwV 0 hts gL_alike_X6_largestMatchings rfl rfl rfl (by decide +kernel) ⟨Nat.le_trans (m := 22) (Nat.le_of_ble_eq_true rfl) hRf, Nat.le_trans (m := 600) (Nat.le_of_ble_eq_true rfl) hRl⟩) (jPreV hN hK hP hD [0, 1, 2, 3, 4, 5, 6, 7, 8, 9, 10, 11, 12, 13, 14, 15, 16, 17, 18, 19, 20] rfl rfl (by decide) (ci := 6) (q0 := 0) rfl rfl) rfl rfl hl.1 rfl (lv_room (Nat.le_of_ble_eq_true rfl)) dL_alike_45 ⟨by omega, by omega⟩) hA hP hD hS [0, 1, 2, 3, 4, 5, 6, 7, 8, 9, 10, 11, 12, 13, 14, 15, 16, 17, 18, 19, 20] [21, 22, 23, 24, 25, 26, 27, 28, 29, 30, 31, 32, 33, 34, 35, 36, 37, 38, 39, 40, 41] (wr := HC aI aJ g tt u_38) rfl rfl (by decide) (by decide) (fun r_45 u_45 H locs q_45 hP hD hS => ?_)
          have hP := hP.sub (ws' := HC aI aJ h st u_45 ++ (HC aI aJ g tt u_38)) [21, 22, 23, 24, 25, 26, 27, 28, 29, 30, 31, 32, 33, 34, 35, 36, 37, 38, 39, 40, 41, 0, 1, 2, 3, 4, 5, 6, 7, 8, 9, 10, 11, 12, 13, 14, 15, 16, 17, 18, 19, 20] rfl
          have hD := hD.sub (ws' := HC aI aJ h st u_45 ++ (HC aI aJ g tt u_38)) [21, 22, 23, 24, 25, 26, 27, 28, 29, 30, 31, 32, 33, 34, 35, 36, 37, 38, 39, 40, 41, 0, 1, 2, 3, 4, 5, 6, 7, 8, 9, 10, 11, 12, 13, 14, 15, 16, 17, 18, 19, 20] (by decide) rfl
          have hP : va_P D vwCl (HC aI aJ h st u_45 ++ (HC aI aJ g tt u_38)) H := hP
          have hD : va_D A (HC aI aJ h st u_45 ++ (HC aI aJ g tt u_38)) := hD
          refine j_topl (y := lN (swt (wys (sE st) (sNr st) (sNl st)) (sN st) (2 ^ sNr st))) (q_45) ?_
          refine lv_aload_n hx hb dL_alike_48 rfl (lv_at hl 1 rfl) ?_
          refine j_calll (va_runV (As := []) (rest := [.long (lN (swt (wys (sE st) (sNr st) (sNl st)) (sN st) (2 ^ sNr st)))]) C.fix (k_largestMatchings l D aI aJ aZ g tt u_38 hj H.size) (cwV 0 hts gL_alike_X6_largestMatchings rfl rfl rfl (by decide +kernel) ⟨Nat.le_trans (m := 22) (Nat.le_of_ble_eq_true rfl) hRf, Nat.le_trans (m := 600) (Nat.le_of_ble_eq_true rfl) hRl⟩) (jPreV hN hK hP hD [21, 22, 23, 24, 25, 26, 27, 28, 29, 30, 31, 32, 33, 34, 35, 36, 37, 38, 39, 40, 41] rfl rfl (by decide) (ci := 6) (q0 := 21) rfl rfl) rfl rfl hl.1 rfl (lv_room (Nat.le_of_ble_eq_true rfl)) dL_alike_49 ⟨by omega, by omega⟩) hA hP hD hS [21, 22, 23, 24, 25, 26, 27, 28, 29, 30, 31, 32, 33, 34, 35, 36, 37, 38, 39, 40, 41] [0, 1, 2, 3, 4, 5, 6, 7, 8, 9, 10, 11, 12, 13, 14, 15, 16, 17, 18, 19, 20] (wr := HC aI aJ h st u_45) rfl rfl (by decide) (by decide) (fun r_49 u_49 H locs q_49 hP hD hS => ?_)
          have hP : va_P D vwCl (HC aI aJ h st u_45 ++ (HC aI aJ g tt u_49)) H := hP
          have hD : va_D A (HC aI aJ h st u_45 ++ (HC aI aJ g tt u_49)) := hD
          refine j_topl (y := lN (swt (wys (sE st) (sNr st) (sNl st)) (sN st) (2 ^ sNr st))) (q_49.trans (congrArg lN u.ways)) ?_
          refine W.lcmp hx hb dL_alike_52 ?_
          refine lv_if_ne (tgt := 114) hx hb dL_alike_53 (by decide) (fun c_53 => ?_) (fun c_53 => ?_)
          · exact absurd (by rw [cv_lc0]) c_53
          · clear c_53
            refine lv_aload_n hx hb dL_alike_56 rfl (lv_at hl 0 rfl) ?_
            refine j_calli (va_runV (As := []) (rest := []) C.fix (k_leastCovers l D aI aJ aZ h st u_45 hi H.size) (cwV 0 hts gL_alike_X6_leastCovers rfl rfl rfl (by decide +kernel) ⟨Nat.le_trans (m := 22) (Nat.le_of_ble_eq_true rfl) hRf, Nat.le_trans (m := 600) (Nat.le_of_ble_eq_true rfl) hRl⟩) (jPreV hN hK hP hD [0, 1, 2, 3, 4, 5, 6, 7, 8, 9, 10, 11, 12, 13, 14, 15, 16, 17, 18, 19, 20] rfl rfl (by decide) (ci := 6) (q0 := 0) rfl rfl) rfl rfl hl.1 rfl (lv_room (Nat.le_of_ble_eq_true rfl)) dL_alike_57 ⟨by omega, by omega⟩) hA hP hD hS [0, 1, 2, 3, 4, 5, 6, 7, 8, 9, 10, 11, 12, 13, 14, 15, 16, 17, 18, 19, 20] [21, 22, 23, 24, 25, 26, 27, 28, 29, 30, 31, 32, 33, 34, 35, 36, 37, 38, 39, 40, 41] (wr := HC aI aJ g tt u_49) rfl rfl (by decide) (by decide) (fun r_57 u_57 H locs q_57 hP hD hS => ?_)
            have hP := hP.sub (ws' := HC aI aJ h st u_57 ++ (HC aI aJ g tt u_49)) [21, 22, 23, 24, 25, 26, 27, 28, 29, 30, 31, 32, 33, 34, 35, 36, 37, 38, 39, 40, 41, 0, 1, 2, 3, 4, 5, 6, 7, 8, 9, 10, 11, 12, 13, 14, 15, 16, 17, 18, 19, 20] rfl
            have hD := hD.sub (ws' := HC aI aJ h st u_57 ++ (HC aI aJ g tt u_49)) [21, 22, 23, 24, 25, 26, 27, 28, 29, 30, 31, 32, 33, 34, 35, 36, 37, 38, 39, 40, 41, 0, 1, 2, 3, 4, 5, 6, 7, 8, 9, 10, 11, 12, 13, 14, 15, 16, 17, 18, 19, 20] (by decide) rfl
            have hP : va_P D vwCl (HC aI aJ h st u_57 ++ (HC aI aJ g tt u_49)) H := hP
            have hD : va_D A (HC aI aJ h st u_57 ++ (HC aI aJ g tt u_49)) := hD
            refine j_topi (y := nI (cvr (sE st) (sNl st) (sN st) (sNl st + 1) 0 0 (fun _ => false))) (q_57) ?_
            refine lv_aload_n hx hb dL_alike_60 rfl (lv_at hl 1 rfl) ?_
            refine j_calli (va_runV (As := []) (rest := [.int (nI (cvr (sE st) (sNl st) (sN st) (sNl st + 1) 0 0 (fun _ => false)))]) C.fix (k_leastCovers l D aI aJ aZ g tt u_49 hj H.size) (cwV 0 hts gL_alike_X6_leastCovers rfl rfl rfl (by decide +kernel) ⟨Nat.le_trans (m := 22) (Nat.le_of_ble_eq_true rfl) hRf, Nat.le_trans (m := 600) (Nat.le_of_ble_eq_true rfl) hRl⟩) (jPreV hN hK hP hD [21, 22, 23, 24, 25, 26, 27, 28, 29, 30, 31, 32, 33, 34, 35, 36, 37, 38, 39, 40, 41] rfl rfl (by decide) (ci := 6) (q0 := 21) rfl rfl) rfl rfl hl.1 rfl (lv_room (Nat.le_of_ble_eq_true rfl)) dL_alike_61 ⟨by omega, by omega⟩) hA hP hD hS [21, 22, 23, 24, 25, 26, 27, 28, 29, 30, 31, 32, 33, 34, 35, 36, 37, 38, 39, 40, 41] [0, 1, 2, 3, 4, 5, 6, 7, 8, 9, 10, 11, 12, 13, 14, 15, 16, 17, 18, 19, 20] (wr := HC aI aJ h st u_57) rfl rfl (by decide) (by decide) (fun r_61 u_61 H locs q_61 hP hD hS => ?_)
            have hP : va_P D vwCl (HC aI aJ h st u_57 ++ (HC aI aJ g tt u_61)) H := hP
            have hD : va_D A (HC aI aJ h st u_57 ++ (HC aI aJ g tt u_61)) := hD
            refine j_topi (y := nI (cvr (sE st) (sNl st) (sN st) (sNl st + 1) 0 0 (fun _ => false))) (q_61.trans (congrArg nI u.cvr)) ?_
            refine lv_icmp_ne (tgt := 114) hx hb dL_alike_64 (by decide) (fun c_64 => ?_) (fun c_64 => ?_)
            · exact absurd rfl c_64
            · clear c_64
              refine lv_aload_n hx hb dL_alike_67 rfl (lv_at hl 0 rfl) ?_
              refine j_calli (va_runV (As := []) (rest := []) C.fix (k_fineParts l D aI aJ aZ h st u_57 hi H.size) (cwV 0 hts gL_alike_X6_fineParts rfl rfl rfl (by decide +kernel) ⟨Nat.le_trans (m := 22) (Nat.le_of_ble_eq_true rfl) hRf, Nat.le_trans (m := 600) (Nat.le_of_ble_eq_true rfl) hRl⟩) (jPreV hN hK hP hD [0, 1, 2, 3, 4, 5, 6, 7, 8, 9, 10, 11, 12, 13, 14, 15, 16, 17, 18, 19, 20] rfl rfl (by decide) (ci := 6) (q0 := 0) rfl rfl) rfl rfl hl.1 rfl (lv_room (Nat.le_of_ble_eq_true rfl)) dL_alike_68 ⟨by omega, by omega⟩) hA hP hD hS [0, 1, 2, 3, 4, 5, 6, 7, 8, 9, 10, 11, 12, 13, 14, 15, 16, 17, 18, 19, 20] [21, 22, 23, 24, 25, 26, 27, 28, 29, 30, 31, 32, 33, 34, 35, 36, 37, 38, 39, 40, 41] (wr := HC aI aJ g tt u_61) rfl rfl (by decide) (by decide) (fun r_68 u_68 H locs q_68 hP hD hS => ?_)
              have hP := hP.sub (ws' := HC aI aJ h st u_68 ++ (HC aI aJ g tt u_61)) [21, 22, 23, 24, 25, 26, 27, 28, 29, 30, 31, 32, 33, 34, 35, 36, 37, 38, 39, 40, 41, 0, 1, 2, 3, 4, 5, 6, 7, 8, 9, 10, 11, 12, 13, 14, 15, 16, 17, 18, 19, 20] rfl
              have hD := hD.sub (ws' := HC aI aJ h st u_68 ++ (HC aI aJ g tt u_61)) [21, 22, 23, 24, 25, 26, 27, 28, 29, 30, 31, 32, 33, 34, 35, 36, 37, 38, 39, 40, 41, 0, 1, 2, 3, 4, 5, 6, 7, 8, 9, 10, 11, 12, 13, 14, 15, 16, 17, 18, 19, 20] (by decide) rfl
              have hP : va_P D vwCl (HC aI aJ h st u_68 ++ (HC aI aJ g tt u_61)) H := hP
              have hD : va_D A (HC aI aJ h st u_68 ++ (HC aI aJ g tt u_61)) := hD
              refine j_topi (y := nI (fpt (sE st) (sL st) (sR st) (sNl st) (sNr st) (sNl st))) (q_68) ?_
              refine lv_aload_n hx hb dL_alike_71 rfl (lv_at hl 1 rfl) ?_
              refine j_calli (va_runV (As := []) (rest := [.int (nI (fpt (sE st) (sL st) (sR st) (sNl st) (sNr st) (sNl st)))]) C.fix (k_fineParts l D aI aJ aZ g tt u_61 hj H.size) (cwV 0 hts gL_alike_X6_fineParts rfl rfl rfl (by decide +kernel) ⟨Nat.le_trans (m := 22) (Nat.le_of_ble_eq_true rfl) hRf, Nat.le_trans (m := 600) (Nat.le_of_ble_eq_true rfl) hRl⟩) (jPreV hN hK hP hD [21, 22, 23, 24, 25, 26, 27, 28, 29, 30, 31, 32, 33, 34, 35, 36, 37, 38, 39, 40, 41] rfl rfl (by decide) (ci := 6) (q0 := 21) rfl rfl) rfl rfl hl.1 rfl (lv_room (Nat.le_of_ble_eq_true rfl)) dL_alike_72 ⟨by omega, by omega⟩) hA hP hD hS [21, 22, 23, 24, 25, 26, 27, 28, 29, 30, 31, 32, 33, 34, 35, 36, 37, 38, 39, 40, 41] [0, 1, 2, 3, 4, 5, 6, 7, 8, 9, 10, 11, 12, 13, 14, 15, 16, 17, 18, 19, 20] (wr := HC aI aJ h st u_68) rfl rfl (by decide) (by decide) (fun r_72 u_72 H locs q_72 hP hD hS => ?_)
              have hP : va_P D vwCl (HC aI aJ h st u_68 ++ (HC aI aJ g tt u_72)) H := hP
              have hD : va_D A (HC aI aJ h st u_68 ++ (HC aI aJ g tt u_72)) := hD
              refine j_topi (y := nI (fpt (sE st) (sL st) (sR st) (sNl st) (sNr st) (sNl st))) (q_72.trans (congrArg nI u.fpt)) ?_
              refine lv_icmp_ne (tgt := 114) hx hb dL_alike_75 (by decide) (fun c_75 => ?_) (fun c_75 => ?_)
              · exact absurd rfl c_75
              · clear c_75
                refine lv_aload_n hx hb dL_alike_78 rfl (lv_at hl 0 rfl) ?_
                refine j_calli (va_runV (As := []) (rest := []) C.fix (k_greatestExcess l D aI aJ aZ h st u_68 hi H.size) (cwV 0 hts gL_alike_X6_greatestExcess rfl rfl rfl (by decide +kernel) ⟨Nat.le_trans (m := 22) (Nat.le_of_ble_eq_true rfl) hRf, Nat.le_trans (m := 600) (Nat.le_of_ble_eq_true rfl) hRl⟩) (jPreV hN hK hP hD [0, 1, 2, 3, 4, 5, 6, 7, 8, 9, 10, 11, 12, 13, 14, 15, 16, 17, 18, 19, 20] rfl rfl (by decide) (ci := 6) (q0 := 0) rfl rfl) rfl rfl hl.1 rfl (lv_room (Nat.le_of_ble_eq_true rfl)) dL_alike_79 ⟨by omega, by omega⟩) hA hP hD hS [0, 1, 2, 3, 4, 5, 6, 7, 8, 9, 10, 11, 12, 13, 14, 15, 16, 17, 18, 19, 20] [21, 22, 23, 24, 25, 26, 27, 28, 29, 30, 31, 32, 33, 34, 35, 36, 37, 38, 39, 40, 41] (wr := HC aI aJ g tt u_72) rfl rfl (by decide) (by decide) (fun r_79 u_79 H locs q_79 hP hD hS => ?_)
                have hP := hP.sub (ws' := HC aI aJ h st u_79 ++ (HC aI aJ g tt u_72)) [21, 22, 23, 24, 25, 26, 27, 28, 29, 30, 31, 32, 33, 34, 35, 36, 37, 38, 39, 40, 41, 0, 1, 2, 3, 4, 5, 6, 7, 8, 9, 10, 11, 12, 13, 14, 15, 16, 17, 18, 19, 20] rfl
                have hD := hD.sub (ws' := HC aI aJ h st u_79 ++ (HC aI aJ g tt u_72)) [21, 22, 23, 24, 25, 26, 27, 28, 29, 30, 31, 32, 33, 34, 35, 36, 37, 38, 39, 40, 41, 0, 1, 2, 3, 4, 5, 6, 7, 8, 9, 10, 11, 12, 13, 14, 15, 16, 17, 18, 19, 20] (by decide) rfl
                have hP : va_P D vwCl (HC aI aJ h st u_79 ++ (HC aI aJ g tt u_72)) H := hP
                have hD : va_D A (HC aI aJ h st u_79 ++ (HC aI aJ g tt u_72)) := hD
                refine j_topi (y := nI (sNl st - sN st)) (q_79) ?_
                refine lv_aload_n hx hb dL_alike_82 rfl (lv_at hl 0 rfl) ?_
                refine j_calli (va_runV (As := []) (rest := [.int (nI (sNl st - sN st))]) C.fix (k_lefts l D aI aJ aZ h st u_79 hi H.size) (cwV 0 hts gL_alike_X6_lefts rfl rfl rfl (by decide +kernel) ⟨Nat.le_trans (m := 22) (Nat.le_of_ble_eq_true rfl) hRf, Nat.le_trans (m := 600) (Nat.le_of_ble_eq_true rfl) hRl⟩) (jPreV hN hK hP hD [0, 1, 2, 3, 4, 5, 6, 7, 8, 9, 10, 11, 12, 13, 14, 15, 16, 17, 18, 19, 20] rfl rfl (by decide) (ci := 6) (q0 := 0) rfl rfl) rfl rfl hl.1 rfl (lv_room (Nat.le_of_ble_eq_true rfl)) dL_alike_83 ⟨by omega, by omega⟩) hA hP hD hS [0, 1, 2, 3, 4, 5, 6, 7, 8, 9, 10, 11, 12, 13, 14, 15, 16, 17, 18, 19, 20] [21, 22, 23, 24, 25, 26, 27, 28, 29, 30, 31, 32, 33, 34, 35, 36, 37, 38, 39, 40, 41] (wr := HC aI aJ g tt u_72) rfl rfl (by decide) (by decide) (fun r_83 u_83 H locs q_83 hP hD hS => ?_)
                have hP := hP.sub (ws' := HC aI aJ h st u_83 ++ (HC aI aJ g tt u_72)) [21, 22, 23, 24, 25, 26, 27, 28, 29, 30, 31, 32, 33, 34, 35, 36, 37, 38, 39, 40, 41, 0, 1, 2, 3, 4, 5, 6, 7, 8, 9, 10, 11, 12, 13, 14, 15, 16, 17, 18, 19, 20] rfl
                have hD := hD.sub (ws' := HC aI aJ h st u_83 ++ (HC aI aJ g tt u_72)) [21, 22, 23, 24, 25, 26, 27, 28, 29, 30, 31, 32, 33, 34, 35, 36, 37, 38, 39, 40, 41, 0, 1, 2, 3, 4, 5, 6, 7, 8, 9, 10, 11, 12, 13, 14, 15, 16, 17, 18, 19, 20] (by decide) rfl
                have hP : va_P D vwCl (HC aI aJ h st u_83 ++ (HC aI aJ g tt u_72)) H := hP
                have hD : va_D A (HC aI aJ h st u_83 ++ (HC aI aJ g tt u_72)) := hD
                refine j_topi (y := nI (sNl st)) (q_83) ?_
                refine lv_aload_n hx hb dL_alike_86 rfl (lv_at hl 0 rfl) ?_
                refine j_calli (va_runV (As := []) (rest := [.int (nI (sNl st)), .int (nI (sNl st - sN st))]) C.fix (k_size l D aI aJ aZ h st u_83 hi H.size) (cwV 0 hts gL_alike_X6_size rfl rfl rfl (by decide +kernel) ⟨Nat.le_trans (m := 22) (Nat.le_of_ble_eq_true rfl) hRf, Nat.le_trans (m := 600) (Nat.le_of_ble_eq_true rfl) hRl⟩) (jPreV hN hK hP hD [0, 1, 2, 3, 4, 5, 6, 7, 8, 9, 10, 11, 12, 13, 14, 15, 16, 17, 18, 19, 20] rfl rfl (by decide) (ci := 6) (q0 := 0) rfl rfl) rfl rfl hl.1 rfl (lv_room (Nat.le_of_ble_eq_true rfl)) dL_alike_87 ⟨by omega, by omega⟩) hA hP hD hS [0, 1, 2, 3, 4, 5, 6, 7, 8, 9, 10, 11, 12, 13, 14, 15, 16, 17, 18, 19, 20] [21, 22, 23, 24, 25, 26, 27, 28, 29, 30, 31, 32, 33, 34, 35, 36, 37, 38, 39, 40, 41] (wr := HC aI aJ g tt u_72) rfl rfl (by decide) (by decide) (fun r_87 u_87 H locs q_87 hP hD hS => ?_)
                have hP := hP.sub (ws' := HC aI aJ h st u_87 ++ (HC aI aJ g tt u_72)) [21, 22, 23, 24, 25, 26, 27, 28, 29, 30, 31, 32, 33, 34, 35, 36, 37, 38, 39, 40, 41, 0, 1, 2, 3, 4, 5, 6, 7, 8, 9, 10, 11, 12, 13, 14, 15, 16, 17, 18, 19, 20] rfl
                have hD := hD.sub (ws' := HC aI aJ h st u_87 ++ (HC aI aJ g tt u_72)) [21, 22, 23, 24, 25, 26, 27, 28, 29, 30, 31, 32, 33, 34, 35, 36, 37, 38, 39, 40, 41, 0, 1, 2, 3, 4, 5, 6, 7, 8, 9, 10, 11, 12, 13, 14, 15, 16, 17, 18, 19, 20] (by decide) rfl
                have hP : va_P D vwCl (HC aI aJ h st u_87 ++ (HC aI aJ g tt u_72)) H := hP
                have hD : va_D A (HC aI aJ h st u_87 ++ (HC aI aJ g tt u_72)) := hD
                refine j_topi (y := nI (sN st)) (q_87) ?_
                refine lv_isub hx hb dL_alike_90 ?_
                refine j_topi (y := nI (sNl st - sN st)) (pk_sub hle) ?_
                refine lv_icmp_ne (tgt := 114) hx hb dL_alike_91 (by decide) (fun c_91 => ?_) (fun c_91 => ?_)
                · exact absurd rfl c_91
                · clear c_91
                  refine lv_aload_n hx hb dL_alike_94 rfl (lv_at hl 1 rfl) ?_
                  refine j_calli (va_runV (As := []) (rest := []) C.fix (k_greatestExcess l D aI aJ aZ g tt u_72 hj H.size) (cwV 0 hts gL_alike_X6_greatestExcess rfl rfl rfl (by decide +kernel) ⟨Nat.le_trans (m := 22) (Nat.le_of_ble_eq_true rfl) hRf, Nat.le_trans (m := 600) (Nat.le_of_ble_eq_true rfl) hRl⟩) (jPreV hN hK hP hD [21, 22, 23, 24, 25, 26, 27, 28, 29, 30, 31, 32, 33, 34, 35, 36, 37, 38, 39, 40, 41] rfl rfl (by decide) (ci := 6) (q0 := 21) rfl rfl) rfl rfl hl.1 rfl (lv_room (Nat.le_of_ble_eq_true rfl)) dL_alike_95 ⟨by omega, by omega⟩) hA hP hD hS [21, 22, 23, 24, 25, 26, 27, 28, 29, 30, 31, 32, 33, 34, 35, 36, 37, 38, 39, 40, 41] [0, 1, 2, 3, 4, 5, 6, 7, 8, 9, 10, 11, 12, 13, 14, 15, 16, 17, 18, 19, 20] (wr := HC aI aJ h st u_87) rfl rfl (by decide) (by decide) (fun r_95 u_95 H locs q_95 hP hD hS => ?_)
                  have hP : va_P D vwCl (HC aI aJ h st u_87 ++ (HC aI aJ g tt u_95)) H := hP
                  have hD : va_D A (HC aI aJ h st u_87 ++ (HC aI aJ g tt u_95)) := hD
                  refine j_topi (y := nI (sNr st - sN st)) (q_95.trans (by rw [u.nl, u.n])) ?_
                  refine lv_aload_n hx hb dL_alike_98 rfl (lv_at hl 0 rfl) ?_
                  refine j_calli (va_runV (As := []) (rest := [.int (nI (sNr st - sN st))]) C.fix (k_rights l D aI aJ aZ h st u_87 hi H.size) (cwV 0 hts gL_alike_X6_rights rfl rfl rfl (by decide +kernel) ⟨Nat.le_trans (m := 22) (Nat.le_of_ble_eq_true rfl) hRf, Nat.le_trans (m := 600) (Nat.le_of_ble_eq_true rfl) hRl⟩) (jPreV hN hK hP hD [0, 1, 2, 3, 4, 5, 6, 7, 8, 9, 10, 11, 12, 13, 14, 15, 16, 17, 18, 19, 20] rfl rfl (by decide) (ci := 6) (q0 := 0) rfl rfl) rfl rfl hl.1 rfl (lv_room (Nat.le_of_ble_eq_true rfl)) dL_alike_99 ⟨by omega, by omega⟩) hA hP hD hS [0, 1, 2, 3, 4, 5, 6, 7, 8, 9, 10, 11, 12, 13, 14, 15, 16, 17, 18, 19, 20] [21, 22, 23, 24, 25, 26, 27, 28, 29, 30, 31, 32, 33, 34, 35, 36, 37, 38, 39, 40, 41] (wr := HC aI aJ g tt u_95) rfl rfl (by decide) (by decide) (fun r_99 u_99 H locs q_99 hP hD hS => ?_)
                  have hP := hP.sub (ws' := HC aI aJ h st u_99 ++ (HC aI aJ g tt u_95)) [21, 22, 23, 24, 25, 26, 27, 28, 29, 30, 31, 32, 33, 34, 35, 36, 37, 38, 39, 40, 41, 0, 1, 2, 3, 4, 5, 6, 7, 8, 9, 10, 11, 12, 13, 14, 15, 16, 17, 18, 19, 20] rfl
                  have hD := hD.sub (ws' := HC aI aJ h st u_99 ++ (HC aI aJ g tt u_95)) [21, 22, 23, 24, 25, 26, 27, 28, 29, 30, 31, 32, 33, 34, 35, 36, 37, 38, 39, 40, 41, 0, 1, 2, 3, 4, 5, 6, 7, 8, 9, 10, 11, 12, 13, 14, 15, 16, 17, 18, 19, 20] (by decide) rfl
                  have hP : va_P D vwCl (HC aI aJ h st u_99 ++ (HC aI aJ g tt u_95)) H := hP
                  have hD : va_D A (HC aI aJ h st u_99 ++ (HC aI aJ g tt u_95)) := hD
                  refine j_topi (y := nI (sNr st)) (q_99) ?_
                  refine lv_aload_n hx hb dL_alike_102 rfl (lv_at hl 0 rfl) ?_
                  refine j_calli (va_runV (As := []) (rest := [.int (nI (sNr st)), .int (nI (sNr st - sN st))]) C.fix (k_size l D aI aJ aZ h st u_99 hi H.size) (cwV 0 hts gL_alike_X6_size rfl rfl rfl (by decide +kernel) ⟨Nat.le_trans (m := 22) (Nat.le_of_ble_eq_true rfl) hRf, Nat.le_trans (m := 600) (Nat.le_of_ble_eq_true rfl) hRl⟩) (jPreV hN hK hP hD [0, 1, 2, 3, 4, 5, 6, 7, 8, 9, 10, 11, 12, 13, 14, 15, 16, 17, 18, 19, 20] rfl rfl (by decide) (ci := 6) (q0 := 0) rfl rfl) rfl rfl hl.1 rfl (lv_room (Nat.le_of_ble_eq_true rfl)) dL_alike_103 ⟨by omega, by omega⟩) hA hP hD hS [0, 1, 2, 3, 4, 5, 6, 7, 8, 9, 10, 11, 12, 13, 14, 15, 16, 17, 18, 19, 20] [21, 22, 23, 24, 25, 26, 27, 28, 29, 30, 31, 32, 33, 34, 35, 36, 37, 38, 39, 40, 41] (wr := HC aI aJ g tt u_95) rfl rfl (by decide) (by decide) (fun r_103 u_103 H locs q_103 hP hD hS => ?_)
                  have hP := hP.sub (ws' := HC aI aJ h st u_103 ++ (HC aI aJ g tt u_95)) [21, 22, 23, 24, 25, 26, 27, 28, 29, 30, 31, 32, 33, 34, 35, 36, 37, 38, 39, 40, 41, 0, 1, 2, 3, 4, 5, 6, 7, 8, 9, 10, 11, 12, 13, 14, 15, 16, 17, 18, 19, 20] rfl
                  have hD := hD.sub (ws' := HC aI aJ h st u_103 ++ (HC aI aJ g tt u_95)) [21, 22, 23, 24, 25, 26, 27, 28, 29, 30, 31, 32, 33, 34, 35, 36, 37, 38, 39, 40, 41, 0, 1, 2, 3, 4, 5, 6, 7, 8, 9, 10, 11, 12, 13, 14, 15, 16, 17, 18, 19, 20] (by decide) rfl
                  have hP : va_P D vwCl (HC aI aJ h st u_103 ++ (HC aI aJ g tt u_95)) H := hP
                  have hD : va_D A (HC aI aJ h st u_103 ++ (HC aI aJ g tt u_95)) := hD
                  refine j_topi (y := nI (sN st)) (q_103) ?_
                  refine lv_isub hx hb dL_alike_106 ?_
                  refine j_topi (y := nI (sNr st - sN st)) (pk_sub hle2) ?_
                  refine lv_icmp_ne (tgt := 114) hx hb dL_alike_107 (by decide) (fun c_107 => ?_) (fun c_107 => ?_)
                  · exact absurd rfl c_107
                  · clear c_107
                    refine lv_iconst (v := nI 1) hx hb dL_alike_110 (by decide) ?_
                    refine lv_goto (tgt := 115) hx hb dL_alike_111 (by decide) ?_
                    refine lv_istore_n (lv' := [(3, .int (nI 1)), (0, .ref (h 0)), (1, .ref (g 0)), (2, .int (nI x))]) hx hb dL_alike_115 rfl hl (by decide) rfl (fun ls hl => ?_)
                    refine lv_iconst (v := nI 0) hx hb dL_alike_116 (by decide) ?_
                    refine lv_istore (lv' := [(4, .int (nI 0)), (3, .int (nI 1)), (0, .ref (h 0)), (1, .ref (g 0)), (2, .int (nI x))]) hx hb dL_alike_117 hl (by decide) rfl (fun ls hl => ?_)
                    refine lv_iconst (v := nI 0) hx hb dL_alike_119 (by decide) ?_
                    refine lv_istore (lv' := [(5, .int (nI 0)), (4, .int (nI 0)), (3, .int (nI 1)), (0, .ref (h 0)), (1, .ref (g 0)), (2, .int (nI x))]) hx hb dL_alike_120 hl (by decide) rfl (fun ls hl => ?_)
                    have hl := lv_sub (l' := [(0, .ref (h 0)), (1, .ref (g 0)), (2, .int (nI x)), (3, .int (nI 1)), (4, .int (nI 0)), (5, .int (nI 0))]) hl [3, 4, 5, 2, 1, 0] rfl
                    exact kk u_103 u_95 H _ ls _ _  hP hD hS hl (by omega) (by omega)
set_option maxHeartbeats 4000000 in
set_option maxRecDepth 100000 in
theorem al_B1  (l : Launch) (hl0 : l.stackTraces = false) (hRf : 22 ≤ R.frames) (hRl : 600 ≤ R.locals) (C : jC p s m meth c cL_alike 9 (some .boolean) RL wsL_alike D (jT aI aJ aZ) args A nm) (hXs : jXs A s s.heap) (u : TU st tt) (hkl : k ≤ sNl st) (hP : va_P D vwCl (HC aI aJ h st j ++ (HC aI aJ g tt jt)) H) (hD : va_D A (HC aI aJ h st j ++ (HC aI aJ g tt jt))) (hS : va_S A s.heap H locs) (hl : lv_has ls 9 [(0, .ref (h 0)), (1, .ref (g 0)), (2, .int (nI x)), (3, .int (nI 1)), (4, .int (nI (cnt k (fun i => !LHl (sE st) (sL st) (sR st) (sNl st) i)))), (5, .int (nI k))]) (hRc : cells + 6 ≤ R.cells) (hRs : slots + 36 ≤ R.slots) (kx : ∀ (j jt : Jk) (H : Heap) (locs : List Loc) (ls : Array Slot) (c1 s1 : Nat), va_P D vwCl (HC aI aJ h st j ++ (HC aI aJ g tt jt)) H → va_D A (HC aI aJ h st j ++ (HC aI aJ g tt jt)) → va_S A s.heap H locs → lv_has ls 9 [(0, .ref (h 0)), (1, .ref (g 0)), (2, .int (nI x)), (3, .int (nI 1)), (4, .int (nI (cnt (sNl st) (fun i => !LHl (sE st) (sL st) (sR st) (sNl st) i)))), (5, .int (nI (sNl st)))] → c1 ≤ cells + 6 → s1 ≤ slots + 36 → W p l e R s m args below meth c H locs c1 s1 Q (F0 m 193 ls [])) (kn : ∀ (j jt : Jk) (H : Heap) (locs : List Loc) (ls : Array Slot) (c1 s1 : Nat), (k < sNl st) → va_P D vwCl (HC aI aJ h st j ++ (HC aI aJ g tt jt)) H → va_D A (HC aI aJ h st j ++ (HC aI aJ g tt jt)) → va_S A s.heap H locs → lv_has ls 9 [(0, .ref (h 0)), (1, .ref (g 0)), (2, .int (nI x)), (3, .int (nI 1)), (4, .int (nI (cnt (k + 1) (fun i => !LHl (sE st) (sL st) (sR st) (sNl st) i)))), (5, .int (nI (k + 1)))] → c1 ≤ cells + 6 → s1 ≤ slots + 36 → W p l e R s m args below meth c H locs c1 s1 Q (F0 m 122 ls [])) : W p l e R s m args below meth c H locs cells slots Q (F0 m 122 ls []) := by
  obtain ⟨hx, hb, hml, hown, hts, hK, hA, hlocks, hr, hn, hN⟩ := id C
  have hi := u.hs
  have hj := u.ht
  have hnl := u.hnl
  have hnr := u.hnr
  have hle : sN st ≤ sNl st := by rw [u.other.2.2.2.1]; exact sz_le _ _
  have hmL := u.hs.b12
  have hmR := u.hs.r12
  have htl : sNl tt ≤ 12 := u.ht.1
  have htr : sNr tt ≤ 12 := u.ht.2.1
  refine lv_iload hx hb dL_alike_122 (lv_at hl 5 rfl) ?_
  refine lv_aload_n hx hb dL_alike_124 rfl (lv_at hl 0 rfl) ?_
  refine j_calli (va_runV (As := []) (rest := [.int (nI k)]) C.fix (k_lefts l D aI aJ aZ h st j hi H.size) (cwV 0 hts gL_alike_X6_lefts rfl rfl rfl (by decide +kernel) ⟨Nat.le_trans (m := 22) (Nat.le_of_ble_eq_true rfl) hRf, Nat.le_trans (m := 600) (Nat.le_of_ble_eq_true rfl) hRl⟩) (jPreV hN hK hP hD [0, 1, 2, 3, 4, 5, 6, 7, 8, 9, 10, 11, 12, 13, 14, 15, 16, 17, 18, 19, 20] rfl rfl (by decide) (ci := 6) (q0 := 0) rfl rfl) rfl rfl hl.1 rfl (lv_room (Nat.le_of_ble_eq_true rfl)) dL_alike_125 ⟨by omega, by omega⟩) hA hP hD hS [0, 1, 2, 3, 4, 5, 6, 7, 8, 9, 10, 11, 12, 13, 14, 15, 16, 17, 18, 19, 20] [21, 22, 23, 24, 25, 26, 27, 28, 29, 30, 31, 32, 33, 34, 35, 36, 37, 38, 39, 40, 41] (wr := HC aI aJ g tt jt) rfl rfl (by decide) (by decide) (fun r_125 u_125 H locs q_125 hP hD hS => ?_)
  have hP := hP.sub (ws' := HC aI aJ h st u_125 ++ (HC aI aJ g tt jt)) [21, 22, 23, 24, 25, 26, 27, 28, 29, 30, 31, 32, 33, 34, 35, 36, 37, 38, 39, 40, 41, 0, 1, 2, 3, 4, 5, 6, 7, 8, 9, 10, 11, 12, 13, 14, 15, 16, 17, 18, 19, 20] rfl
  have hD := hD.sub (ws' := HC aI aJ h st u_125 ++ (HC aI aJ g tt jt)) [21, 22, 23, 24, 25, 26, 27, 28, 29, 30, 31, 32, 33, 34, 35, 36, 37, 38, 39, 40, 41, 0, 1, 2, 3, 4, 5, 6, 7, 8, 9, 10, 11, 12, 13, 14, 15, 16, 17, 18, 19, 20] (by decide) rfl
  have hP : va_P D vwCl (HC aI aJ h st u_125 ++ (HC aI aJ g tt jt)) H := hP
  have hD : va_D A (HC aI aJ h st u_125 ++ (HC aI aJ g tt jt)) := hD
  refine j_topi (y := nI (sNl st)) (q_125) ?_
  refine lv_icmp_ge (tgt := 193) hx hb dL_alike_128 (by decide) (fun c_128 => ?_) (fun c_128 => ?_)
  · rw [cv_le (by omega) (by omega)] at c_128
    have hk : k = sNl st := by omega
    rw [hk] at hl
    have hl := lv_sub (l' := [(0, .ref (h 0)), (1, .ref (g 0)), (2, .int (nI x)), (3, .int (nI 1)), (4, .int (nI (cnt (sNl st) (fun i => !LHl (sE st) (sL st) (sR st) (sNl st) i)))), (5, .int (nI (sNl st)))]) hl [0, 1, 2, 3, 4, 5] rfl
    exact kx u_125 jt H _ ls _ _ hP hD hS hl (by omega) (by omega)
  · rw [cv_le (by omega) (by omega)] at c_128
    have hk : k < sNl st := by omega
    refine lv_iload_n hx hb dL_alike_131 rfl (lv_at hl 3 rfl) ?_
    refine lv_if_eq (tgt := 193) hx hb dL_alike_132 (by decide) (fun c_132 => ?_) (fun c_132 => ?_)
    · exact absurd c_132 (by decide)
    · clear c_132
      refine lv_iload hx hb dL_alike_135 (lv_at hl 4 rfl) ?_
      refine lv_aload_n hx hb dL_alike_137 rfl (lv_at hl 0 rfl) ?_
      refine lv_iload hx hb dL_alike_138 (lv_at hl 5 rfl) ?_
      refine j_calliM (vx_runSW (As := [.ref (h 0), .int (nI k)]) (rest := [.int (nI (cnt k (fun i => !LHl (sE st) (sL st) (sR st) (sNl st) i)))]) C.fix (c_L_leftCover l hl0 D aI aJ aZ h st u_125 (nI k) hi H.size) (vx_cwSW 2 hts gL_alike_L_leftCover rfl rfl rfl (by decide +kernel) ⟨Nat.le_trans (m := 22) (Nat.le_of_ble_eq_true rfl) hRf, Nat.le_trans (m := 600) (Nat.le_of_ble_eq_true rfl) hRl⟩) (jxPreS hXs hA hS hN hK hP hD [0, 1, 2, 3, 4, 5, 6, 7, 8, 9, 10, 11, 12, 13, 14, 15, 16, 17, 18, 19, 20] rfl rfl (by decide)) rfl rfl hl.1 rfl (lv_room (Nat.le_of_ble_eq_true rfl)) dL_alike_140 ⟨by omega, by omega⟩) hA hP hD hS [0, 1, 2, 3, 4, 5, 6, 7, 8, 9, 10, 11, 12, 13, 14, 15, 16, 17, 18, 19, 20] [21, 22, 23, 24, 25, 26, 27, 28, 29, 30, 31, 32, 33, 34, 35, 36, 37, 38, 39, 40, 41] (wr := HC aI aJ g tt jt) rfl rfl (by decide) (by decide) (fun r_140 u_140 H locs q_140 hP hD hS => ?_)
      have hP := hP.sub (ws' := HC aI aJ h st u_140 ++ (HC aI aJ g tt jt)) [21, 22, 23, 24, 25, 26, 27, 28, 29, 30, 31, 32, 33, 34, 35, 36, 37, 38, 39, 40, 41, 0, 1, 2, 3, 4, 5, 6, 7, 8, 9, 10, 11, 12, 13, 14, 15, 16, 17, 18, 19, 20] rfl
      have hD := hD.sub (ws' := HC aI aJ h st u_140 ++ (HC aI aJ g tt jt)) [21, 22, 23, 24, 25, 26, 27, 28, 29, 30, 31, 32, 33, 34, 35, 36, 37, 38, 39, 40, 41, 0, 1, 2, 3, 4, 5, 6, 7, 8, 9, 10, 11, 12, 13, 14, 15, 16, 17, 18, 19, 20] (by decide) rfl
      have hP : va_P D vwCl (HC aI aJ h st u_140 ++ (HC aI aJ g tt jt)) H := hP
      have hD : va_D A (HC aI aJ h st u_140 ++ (HC aI aJ g tt jt)) := hD
      refine j_topi (y := nI (b2n (!LHl (sE st) (sL st) (sR st) (sNl st) k))) (lc_at (ix_of (by omega) hk rfl) q_140) ?_
      refine lv_iadd hx hb dL_alike_143 ?_
      refine j_topi (y := nI (cnt (k + 1) (fun i => !LHl (sE st) (sL st) (sR st) (sNl st) i))) (nI_add _ _) ?_
      refine lv_istore (lv' := [(4, .int (nI (cnt (k + 1) (fun i => !LHl (sE st) (sL st) (sR st) (sNl st) i)))), (0, .ref (h 0)), (1, .ref (g 0)), (2, .int (nI x)), (3, .int (nI 1)), (5, .int (nI k))]) hx hb dL_alike_144 hl (by decide) rfl (fun ls hl => ?_)
      refine lv_aload_n hx hb dL_alike_146 rfl (lv_at hl 1 rfl) ?_
      refine lv_iload hx hb dL_alike_147 (lv_at hl 5 rfl) ?_
      refine j_calliM (vx_runSW (As := [.ref (h 0), .int (nI k)]) (rest := []) C.fix (c_L_leftPart l hl0 D aI aJ aZ h st u_140 (nI k) hi H.size) (vx_cwSW 2 hts gL_alike_L_leftPart rfl rfl rfl (by decide +kernel) ⟨Nat.le_trans (m := 22) (Nat.le_of_ble_eq_true rfl) hRf, Nat.le_trans (m := 600) (Nat.le_of_ble_eq_true rfl) hRl⟩) (jxPreS hXs hA hS hN hK hP hD [0, 1, 2, 3, 4, 5, 6, 7, 8, 9, 10, 11, 12, 13, 14, 15, 16, 17, 18, 19, 20] rfl rfl (by decide)) rfl rfl hl.1 rfl (lv_room (Nat.le_of_ble_eq_true rfl)) dL_alike_149 ⟨by omega, by omega⟩) hA hP hD hS [0, 1, 2, 3, 4, 5, 6, 7, 8, 9, 10, 11, 12, 13, 14, 15, 16, 17, 18, 19, 20] [21, 22, 23, 24, 25, 26, 27, 28, 29, 30, 31, 32, 33, 34, 35, 36, 37, 38, 39, 40, 41] (wr := HC aI aJ g tt jt) rfl rfl (by decide) (by decide) (fun r_149 u_149 H locs q_149 hP hD hS => ?_)
      have hP := hP.sub (ws' := HC aI aJ h st u_149 ++ (HC aI aJ g tt jt)) [21, 22, 23, 24, 25, 26, 27, 28, 29, 30, 31, 32, 33, 34, 35, 36, 37, 38, 39, 40, 41, 0, 1, 2, 3, 4, 5, 6, 7, 8, 9, 10, 11, 12, 13, 14, 15, 16, 17, 18, 19, 20] rfl
      have hD := hD.sub (ws' := HC aI aJ h st u_149 ++ (HC aI aJ g tt jt)) [21, 22, 23, 24, 25, 26, 27, 28, 29, 30, 31, 32, 33, 34, 35, 36, 37, 38, 39, 40, 41, 0, 1, 2, 3, 4, 5, 6, 7, 8, 9, 10, 11, 12, 13, 14, 15, 16, 17, 18, 19, 20] (by decide) rfl
      have hP : va_P D vwCl (HC aI aJ h st u_149 ++ (HC aI aJ g tt jt)) H := hP
      have hD : va_D A (HC aI aJ h st u_149 ++ (HC aI aJ g tt jt)) := hD
      refine j_topi (y := nI (pL (sE st) (sL st) (sR st) (sNl st) (sNr st) k)) (lpp_at (ix_of (by omega) hk rfl) q_149) ?_
      refine lv_iconst (v := nI 2) hx hb dL_alike_152 (by decide) ?_
      refine lv_aload_n hx hb dL_alike_153 rfl (lv_at hl 2 rfl) ?_
      refine lv_iload hx hb dL_alike_154 (lv_at hl 5 rfl) ?_
      refine j_calliM (vx_runSW (As := [.ref (g 0), .int (nI k)]) (rest := [.int (nI 2), .int (nI (pL (sE st) (sL st) (sR st) (sNl st) (sNr st) k))]) C.fix (c_L_rightPart l hl0 D aI aJ aZ g tt jt (nI k) hj H.size) (vx_cwSW 2 hts gL_alike_L_rightPart rfl rfl rfl (by decide +kernel) ⟨Nat.le_trans (m := 22) (Nat.le_of_ble_eq_true rfl) hRf, Nat.le_trans (m := 600) (Nat.le_of_ble_eq_true rfl) hRl⟩) (jxPreS hXs hA hS hN hK hP hD [21, 22, 23, 24, 25, 26, 27, 28, 29, 30, 31, 32, 33, 34, 35, 36, 37, 38, 39, 40, 41] rfl rfl (by decide)) rfl rfl hl.1 rfl (lv_room (Nat.le_of_ble_eq_true rfl)) dL_alike_156 ⟨by omega, by omega⟩) hA hP hD hS [21, 22, 23, 24, 25, 26, 27, 28, 29, 30, 31, 32, 33, 34, 35, 36, 37, 38, 39, 40, 41] [0, 1, 2, 3, 4, 5, 6, 7, 8, 9, 10, 11, 12, 13, 14, 15, 16, 17, 18, 19, 20] (wr := HC aI aJ h st u_149) rfl rfl (by decide) (by decide) (fun r_156 u_156 H locs q_156 hP hD hS => ?_)
      have hP : va_P D vwCl (HC aI aJ h st u_149 ++ (HC aI aJ g tt u_156)) H := hP
      have hD : va_D A (HC aI aJ h st u_149 ++ (HC aI aJ g tt u_156)) := hD
      refine j_topi (y := nI (pR (sE tt) (sL tt) (sR tt) (sNl tt) (sNr tt) k)) (rp_at (ix_of (by omega) (by rw [u.nr]; exact hk) rfl) q_156) ?_
      refine lv_isub hx hb dL_alike_159 ?_
      refine j_topi (y := nI (pL (sE st) (sL st) (sR st) (sNl st) (sNr st) k)) (u.ptl k) ?_
      refine lv_icmp_ne (tgt := 185) hx hb dL_alike_160 (by decide) (fun c_160 => ?_) (fun c_160 => ?_)
      · exact absurd rfl c_160
      · clear c_160
        refine lv_aload_n hx hb dL_alike_163 rfl (lv_at hl 1 rfl) ?_
        refine lv_iload hx hb dL_alike_164 (lv_at hl 5 rfl) ?_
        refine j_calliM (vx_runSW (As := [.ref (h 0), .int (nI k)]) (rest := []) C.fix (c_L_ofLeft l hl0 D aI aJ aZ h st u_149 (nI k) hi H.size) (vx_cwSW 2 hts gL_alike_L_ofLeft rfl rfl rfl (by decide +kernel) ⟨Nat.le_trans (m := 22) (Nat.le_of_ble_eq_true rfl) hRf, Nat.le_trans (m := 600) (Nat.le_of_ble_eq_true rfl) hRl⟩) (jxPreS hXs hA hS hN hK hP hD [0, 1, 2, 3, 4, 5, 6, 7, 8, 9, 10, 11, 12, 13, 14, 15, 16, 17, 18, 19, 20] rfl rfl (by decide)) rfl rfl hl.1 rfl (lv_room (Nat.le_of_ble_eq_true rfl)) dL_alike_166 ⟨by omega, by omega⟩) hA hP hD hS [0, 1, 2, 3, 4, 5, 6, 7, 8, 9, 10, 11, 12, 13, 14, 15, 16, 17, 18, 19, 20] [21, 22, 23, 24, 25, 26, 27, 28, 29, 30, 31, 32, 33, 34, 35, 36, 37, 38, 39, 40, 41] (wr := HC aI aJ g tt u_156) rfl rfl (by decide) (by decide) (fun r_166 u_166 H locs q_166 hP hD hS => ?_)
        have hP := hP.sub (ws' := HC aI aJ h st u_166 ++ (HC aI aJ g tt u_156)) [21, 22, 23, 24, 25, 26, 27, 28, 29, 30, 31, 32, 33, 34, 35, 36, 37, 38, 39, 40, 41, 0, 1, 2, 3, 4, 5, 6, 7, 8, 9, 10, 11, 12, 13, 14, 15, 16, 17, 18, 19, 20] rfl
        have hD := hD.sub (ws' := HC aI aJ h st u_166 ++ (HC aI aJ g tt u_156)) [21, 22, 23, 24, 25, 26, 27, 28, 29, 30, 31, 32, 33, 34, 35, 36, 37, 38, 39, 40, 41, 0, 1, 2, 3, 4, 5, 6, 7, 8, 9, 10, 11, 12, 13, 14, 15, 16, 17, 18, 19, 20] (by decide) rfl
        have hP : va_P D vwCl (HC aI aJ h st u_166 ++ (HC aI aJ g tt u_156)) H := hP
        have hD : va_D A (HC aI aJ h st u_166 ++ (HC aI aJ g tt u_156)) := hD
        refine j_topi (y := pv (sL st k)) (ol_at (ix_of (by omega) hk rfl) q_166) ?_
        refine lv_if_ge (tgt := 181) hx hb dL_alike_169 (by decide) (fun c_169 => ?_) (fun c_169 => ?_)
        · refine lv_iconst (v := nI 1) hx hb dL_alike_181 (by decide) ?_
          refine lv_goto (tgt := 186) hx hb dL_alike_182 (by decide) ?_
          refine lv_istore_n (lv' := [(3, .int (nI 1)), (4, .int (nI (cnt (k + 1) (fun i => !LHl (sE st) (sL st) (sR st) (sNl st) i)))), (0, .ref (h 0)), (1, .ref (g 0)), (2, .int (nI x)), (5, .int (nI k))]) hx hb dL_alike_186 rfl hl (by decide) rfl (fun ls hl => ?_)
          refine lv_iinc (v := nI (k + 1)) (lv' := [(5, .int (nI (k + 1))), (3, .int (nI 1)), (4, .int (nI (cnt (k + 1) (fun i => !LHl (sE st) (sL st) (sR st) (sNl st) i)))), (0, .ref (h 0)), (1, .ref (g 0)), (2, .int (nI x))]) hx hb dL_alike_187 hl (k := 5) rfl (inc_nI _ _) (by decide) rfl (fun ls hl => ?_)
          refine lv_goto (tgt := 122) hx hb dL_alike_190 (by decide) ?_
          have hl := lv_sub (l' := [(0, .ref (h 0)), (1, .ref (g 0)), (2, .int (nI x)), (3, .int (nI 1)), (4, .int (nI (cnt (k + 1) (fun i => !LHl (sE st) (sL st) (sR st) (sNl st) i)))), (5, .int (nI (k + 1)))]) hl [3, 4, 5, 1, 2, 0] rfl
          exact kn u_166 u_156 H _ ls _ _ hk hP hD hS hl (by omega) (by omega)
        · have hz := pv_neg (fun v hv => by have := hmL k v hv; omega) c_169
          refine lv_aload_n hx hb dL_alike_172 rfl (lv_at hl 1 rfl) ?_
          refine lv_iload hx hb dL_alike_173 (lv_at hl 5 rfl) ?_
          refine j_calliM (vx_runSW (As := [.ref (h 0), .int (nI k)]) (rest := []) C.fix (c_L_leftPart l hl0 D aI aJ aZ h st u_166 (nI k) hi H.size) (vx_cwSW 2 hts gL_alike_L_leftPart rfl rfl rfl (by decide +kernel) ⟨Nat.le_trans (m := 22) (Nat.le_of_ble_eq_true rfl) hRf, Nat.le_trans (m := 600) (Nat.le_of_ble_eq_true rfl) hRl⟩) (jxPreS hXs hA hS hN hK hP hD [0, 1, 2, 3, 4, 5, 6, 7, 8, 9, 10, 11, 12, 13, 14, 15, 16, 17, 18, 19, 20] rfl rfl (by decide)) rfl rfl hl.1 rfl (lv_room (Nat.le_of_ble_eq_true rfl)) dL_alike_175 ⟨by omega, by omega⟩) hA hP hD hS [0, 1, 2, 3, 4, 5, 6, 7, 8, 9, 10, 11, 12, 13, 14, 15, 16, 17, 18, 19, 20] [21, 22, 23, 24, 25, 26, 27, 28, 29, 30, 31, 32, 33, 34, 35, 36, 37, 38, 39, 40, 41] (wr := HC aI aJ g tt u_156) rfl rfl (by decide) (by decide) (fun r_175 u_175 H locs q_175 hP hD hS => ?_)
          have hP := hP.sub (ws' := HC aI aJ h st u_175 ++ (HC aI aJ g tt u_156)) [21, 22, 23, 24, 25, 26, 27, 28, 29, 30, 31, 32, 33, 34, 35, 36, 37, 38, 39, 40, 41, 0, 1, 2, 3, 4, 5, 6, 7, 8, 9, 10, 11, 12, 13, 14, 15, 16, 17, 18, 19, 20] rfl
          have hD := hD.sub (ws' := HC aI aJ h st u_175 ++ (HC aI aJ g tt u_156)) [21, 22, 23, 24, 25, 26, 27, 28, 29, 30, 31, 32, 33, 34, 35, 36, 37, 38, 39, 40, 41, 0, 1, 2, 3, 4, 5, 6, 7, 8, 9, 10, 11, 12, 13, 14, 15, 16, 17, 18, 19, 20] (by decide) rfl
          have hP : va_P D vwCl (HC aI aJ h st u_175 ++ (HC aI aJ g tt u_156)) H := hP
          have hD : va_D A (HC aI aJ h st u_175 ++ (HC aI aJ g tt u_156)) := hD
          refine j_topi (y := nI 0) ((lpp_at (ix_of (by omega) hk rfl) q_175).trans (congrArg nI (u.pL0 hk hz))) ?_
          refine lv_if_ne (tgt := 185) hx hb dL_alike_178 (by decide) (fun c_178 => ?_) (fun c_178 => ?_)
          · exact absurd c_178 (by decide)
          · clear c_178
            refine lv_iconst (v := nI 1) hx hb dL_alike_181 (by decide) ?_
            refine lv_goto (tgt := 186) hx hb dL_alike_182 (by decide) ?_
            refine lv_istore_n (lv' := [(3, .int (nI 1)), (4, .int (nI (cnt (k + 1) (fun i => !LHl (sE st) (sL st) (sR st) (sNl st) i)))), (0, .ref (h 0)), (1, .ref (g 0)), (2, .int (nI x)), (5, .int (nI k))]) hx hb dL_alike_186 rfl hl (by decide) rfl (fun ls hl => ?_)
            refine lv_iinc (v := nI (k + 1)) (lv' := [(5, .int (nI (k + 1))), (3, .int (nI 1)), (4, .int (nI (cnt (k + 1) (fun i => !LHl (sE st) (sL st) (sR st) (sNl st) i)))), (0, .ref (h 0)), (1, .ref (g 0)), (2, .int (nI x))]) hx hb dL_alike_187 hl (k := 5) rfl (inc_nI _ _) (by decide) rfl (fun ls hl => ?_)
            refine lv_goto (tgt := 122) hx hb dL_alike_190 (by decide) ?_
            have hl := lv_sub (l' := [(0, .ref (h 0)), (1, .ref (g 0)), (2, .int (nI x)), (3, .int (nI 1)), (4, .int (nI (cnt (k + 1) (fun i => !LHl (sE st) (sL st) (sR st) (sNl st) i)))), (5, .int (nI (k + 1)))]) hl [3, 4, 5, 1, 2, 0] rfl
            exact kn u_175 u_156 H _ ls _ _ hk hP hD hS hl (by omega) (by omega)
theorem al_B (l : Launch) (hl0 : l.stackTraces = false) (hRf : 22 ≤ R.frames) (hRl : 600 ≤ R.locals) (C : jC p s m meth c cL_alike 9 (some .boolean) RL wsL_alike D (jT aI aJ aZ) args A nm) (hXs : jXs A s s.heap) (u : TU st tt) {c0 s0 : Nat} (hRc : c0 + 78 ≤ R.cells) (hRs : s0 + 468 ≤ R.slots)
    (kx : ∀ (j jt : Jk) (H : Heap) (locs : List Loc) (ls : Array Slot) (c1 s1 : Nat), va_P D vwCl (HC aI aJ h st j ++ (HC aI aJ g tt jt)) H → va_D A (HC aI aJ h st j ++ (HC aI aJ g tt jt)) → va_S A s.heap H locs → lv_has ls 9 [(0, .ref (h 0)), (1, .ref (g 0)), (2, .int (nI x)), (3, .int (nI 1)), (4, .int (nI (cnt (sNl st) (fun i => !LHl (sE st) (sL st) (sR st) (sNl st) i)))), (5, .int (nI (sNl st)))] → c1 ≤ c0 + 78 → s1 ≤ s0 + 468 → W p l e R s m args below meth c H locs c1 s1 Q (F0 m 193 ls [])) :
    ∀ (N k : Nat) (j jt : Jk) (H : Heap) (locs : List Loc) (ls : Array Slot) (c1 s1 : Nat), k + N = sNl st + 1 → k ≤ sNl st → va_P D vwCl (HC aI aJ h st j ++ (HC aI aJ g tt jt)) H → va_D A (HC aI aJ h st j ++ (HC aI aJ g tt jt)) → va_S A s.heap H locs → lv_has ls 9 [(0, .ref (h 0)), (1, .ref (g 0)), (2, .int (nI x)), (3, .int (nI 1)), (4, .int (nI (cnt k (fun i => !LHl (sE st) (sL st) (sR st) (sNl st) i)))), (5, .int (nI k))] → c1 ≤ c0 + 6 * k → s1 ≤ s0 + 36 * k → W p l e R s m args below meth c H locs c1 s1 Q (F0 m 122 ls []) := by
  have hnl := u.hnl
  have hnr := u.hnr
  intro N
  induction N with
  | zero => intro k j jt H locs ls c1 s1 h1 h2; omega
  | succ N ih =>
    intro k j jt H locs ls c1 s1 h1 h2 hP hD hS hl k1 k2
    exact al_B1 l hl0 hRf hRl C hXs u h2 hP hD hS hl (by omega) (by omega) (fun j jt H locs ls c2 s2 hP hD hS hl k3 k4 => kx j jt H locs ls c2 s2 hP hD hS hl (by omega) (by omega))
      (fun j jt H locs ls c2 s2 hk hP hD hS hl k3 k4 => ih (k + 1) j jt H locs ls c2 s2 (by omega) (by omega) hP hD hS hl (by omega) (by omega))
set_option maxHeartbeats 4000000 in
set_option maxRecDepth 100000 in
theorem al_C1  (l : Launch) (hl0 : l.stackTraces = false) (hRf : 22 ≤ R.frames) (hRl : 600 ≤ R.locals) (C : jC p s m meth c cL_alike 9 (some .boolean) RL wsL_alike D (jT aI aJ aZ) args A nm) (hXs : jXs A s s.heap) (u : TU st tt) (hkl : k ≤ sNr st) (hP : va_P D vwCl (HC aI aJ h st j ++ (HC aI aJ g tt jt)) H) (hD : va_D A (HC aI aJ h st j ++ (HC aI aJ g tt jt))) (hS : va_S A s.heap H locs) (hl : lv_has ls 9 [(0, .ref (h 0)), (1, .ref (g 0)), (2, .int (nI x)), (3, .int (nI 1)), (4, .int (nI (cv + cnt k (LHr (sE st) (sL st) (sR st) (sNl st))))), (5, .int (nI k))]) (hRc : cells + 6 ≤ R.cells) (hRs : slots + 36 ≤ R.slots) (kx : ∀ (j jt : Jk) (H : Heap) (locs : List Loc) (ls : Array Slot) (c1 s1 : Nat), va_P D vwCl (HC aI aJ h st j ++ (HC aI aJ g tt jt)) H → va_D A (HC aI aJ h st j ++ (HC aI aJ g tt jt)) → va_S A s.heap H locs → lv_has ls 9 [(0, .ref (h 0)), (1, .ref (g 0)), (2, .int (nI x)), (3, .int (nI 1)), (4, .int (nI (cv + cnt (sNr st) (LHr (sE st) (sL st) (sR st) (sNl st))))), (5, .int (nI (sNr st)))] → c1 ≤ cells + 6 → s1 ≤ slots + 36 → W p l e R s m args below meth c H locs c1 s1 Q (F0 m 268 ls [])) (kn : ∀ (j jt : Jk) (H : Heap) (locs : List Loc) (ls : Array Slot) (c1 s1 : Nat), (k < sNr st) → va_P D vwCl (HC aI aJ h st j ++ (HC aI aJ g tt jt)) H → va_D A (HC aI aJ h st j ++ (HC aI aJ g tt jt)) → va_S A s.heap H locs → lv_has ls 9 [(0, .ref (h 0)), (1, .ref (g 0)), (2, .int (nI x)), (3, .int (nI 1)), (4, .int (nI (cv + cnt (k + 1) (LHr (sE st) (sL st) (sR st) (sNl st))))), (5, .int (nI (k + 1)))] → c1 ≤ cells + 6 → s1 ≤ slots + 36 → W p l e R s m args below meth c H locs c1 s1 Q (F0 m 196 ls [])) : W p l e R s m args below meth c H locs cells slots Q (F0 m 196 ls []) := by
  obtain ⟨hx, hb, hml, hown, hts, hK, hA, hlocks, hr, hn, hN⟩ := id C
  have hi := u.hs
  have hj := u.ht
  have hnl := u.hnl
  have hnr := u.hnr
  have hle : sN st ≤ sNl st := by rw [u.other.2.2.2.1]; exact sz_le _ _
  have hmL := u.hs.b12
  have hmR := u.hs.r12
  have htl : sNl tt ≤ 12 := u.ht.1
  have htr : sNr tt ≤ 12 := u.ht.2.1
  refine lv_iload hx hb dL_alike_196 (lv_at hl 5 rfl) ?_
  refine lv_aload_n hx hb dL_alike_198 rfl (lv_at hl 0 rfl) ?_
  refine j_calli (va_runV (As := []) (rest := [.int (nI k)]) C.fix (k_rights l D aI aJ aZ h st j hi H.size) (cwV 0 hts gL_alike_X6_rights rfl rfl rfl (by decide +kernel) ⟨Nat.le_trans (m := 22) (Nat.le_of_ble_eq_true rfl) hRf, Nat.le_trans (m := 600) (Nat.le_of_ble_eq_true rfl) hRl⟩) (jPreV hN hK hP hD [0, 1, 2, 3, 4, 5, 6, 7, 8, 9, 10, 11, 12, 13, 14, 15, 16, 17, 18, 19, 20] rfl rfl (by decide) (ci := 6) (q0 := 0) rfl rfl) rfl rfl hl.1 rfl (lv_room (Nat.le_of_ble_eq_true rfl)) dL_alike_199 ⟨by omega, by omega⟩) hA hP hD hS [0, 1, 2, 3, 4, 5, 6, 7, 8, 9, 10, 11, 12, 13, 14, 15, 16, 17, 18, 19, 20] [21, 22, 23, 24, 25, 26, 27, 28, 29, 30, 31, 32, 33, 34, 35, 36, 37, 38, 39, 40, 41] (wr := HC aI aJ g tt jt) rfl rfl (by decide) (by decide) (fun r_199 u_199 H locs q_199 hP hD hS => ?_)
  have hP := hP.sub (ws' := HC aI aJ h st u_199 ++ (HC aI aJ g tt jt)) [21, 22, 23, 24, 25, 26, 27, 28, 29, 30, 31, 32, 33, 34, 35, 36, 37, 38, 39, 40, 41, 0, 1, 2, 3, 4, 5, 6, 7, 8, 9, 10, 11, 12, 13, 14, 15, 16, 17, 18, 19, 20] rfl
  have hD := hD.sub (ws' := HC aI aJ h st u_199 ++ (HC aI aJ g tt jt)) [21, 22, 23, 24, 25, 26, 27, 28, 29, 30, 31, 32, 33, 34, 35, 36, 37, 38, 39, 40, 41, 0, 1, 2, 3, 4, 5, 6, 7, 8, 9, 10, 11, 12, 13, 14, 15, 16, 17, 18, 19, 20] (by decide) rfl
  have hP : va_P D vwCl (HC aI aJ h st u_199 ++ (HC aI aJ g tt jt)) H := hP
  have hD : va_D A (HC aI aJ h st u_199 ++ (HC aI aJ g tt jt)) := hD
  refine j_topi (y := nI (sNr st)) (q_199) ?_
  refine lv_icmp_ge (tgt := 268) hx hb dL_alike_202 (by decide) (fun c_202 => ?_) (fun c_202 => ?_)
  · rw [cv_le (by omega) (by omega)] at c_202
    have hk : k = sNr st := by omega
    rw [hk] at hl
    have hl := lv_sub (l' := [(0, .ref (h 0)), (1, .ref (g 0)), (2, .int (nI x)), (3, .int (nI 1)), (4, .int (nI (cv + cnt (sNr st) (LHr (sE st) (sL st) (sR st) (sNl st))))), (5, .int (nI (sNr st)))]) hl [0, 1, 2, 3, 4, 5] rfl
    exact kx u_199 jt H _ ls _ _ hP hD hS hl (by omega) (by omega)
  · rw [cv_le (by omega) (by omega)] at c_202
    have hk : k < sNr st := by omega
    refine lv_iload_n hx hb dL_alike_205 rfl (lv_at hl 3 rfl) ?_
    refine lv_if_eq (tgt := 268) hx hb dL_alike_206 (by decide) (fun c_206 => ?_) (fun c_206 => ?_)
    · exact absurd c_206 (by decide)
    · clear c_206
      refine lv_iload hx hb dL_alike_209 (lv_at hl 4 rfl) ?_
      refine lv_aload_n hx hb dL_alike_211 rfl (lv_at hl 0 rfl) ?_
      refine lv_iload hx hb dL_alike_212 (lv_at hl 5 rfl) ?_
      refine j_calliM (vx_runSW (As := [.ref (h 0), .int (nI k)]) (rest := [.int (nI (cv + cnt k (LHr (sE st) (sL st) (sR st) (sNl st))))]) C.fix (c_L_rightCover l hl0 D aI aJ aZ h st u_199 (nI k) hi H.size) (vx_cwSW 2 hts gL_alike_L_rightCover rfl rfl rfl (by decide +kernel) ⟨Nat.le_trans (m := 22) (Nat.le_of_ble_eq_true rfl) hRf, Nat.le_trans (m := 600) (Nat.le_of_ble_eq_true rfl) hRl⟩) (jxPreS hXs hA hS hN hK hP hD [0, 1, 2, 3, 4, 5, 6, 7, 8, 9, 10, 11, 12, 13, 14, 15, 16, 17, 18, 19, 20] rfl rfl (by decide)) rfl rfl hl.1 rfl (lv_room (Nat.le_of_ble_eq_true rfl)) dL_alike_214 ⟨by omega, by omega⟩) hA hP hD hS [0, 1, 2, 3, 4, 5, 6, 7, 8, 9, 10, 11, 12, 13, 14, 15, 16, 17, 18, 19, 20] [21, 22, 23, 24, 25, 26, 27, 28, 29, 30, 31, 32, 33, 34, 35, 36, 37, 38, 39, 40, 41] (wr := HC aI aJ g tt jt) rfl rfl (by decide) (by decide) (fun r_214 u_214 H locs q_214 hP hD hS => ?_)
      have hP := hP.sub (ws' := HC aI aJ h st u_214 ++ (HC aI aJ g tt jt)) [21, 22, 23, 24, 25, 26, 27, 28, 29, 30, 31, 32, 33, 34, 35, 36, 37, 38, 39, 40, 41, 0, 1, 2, 3, 4, 5, 6, 7, 8, 9, 10, 11, 12, 13, 14, 15, 16, 17, 18, 19, 20] rfl
      have hD := hD.sub (ws' := HC aI aJ h st u_214 ++ (HC aI aJ g tt jt)) [21, 22, 23, 24, 25, 26, 27, 28, 29, 30, 31, 32, 33, 34, 35, 36, 37, 38, 39, 40, 41, 0, 1, 2, 3, 4, 5, 6, 7, 8, 9, 10, 11, 12, 13, 14, 15, 16, 17, 18, 19, 20] (by decide) rfl
      have hP : va_P D vwCl (HC aI aJ h st u_214 ++ (HC aI aJ g tt jt)) H := hP
      have hD : va_D A (HC aI aJ h st u_214 ++ (HC aI aJ g tt jt)) := hD
      refine j_topi (y := nI (b2n (LHr (sE st) (sL st) (sR st) (sNl st) k))) (rc_at (ix_of (by omega) hk rfl) q_214) ?_
      refine lv_iadd hx hb dL_alike_217 ?_
      refine j_topi (y := nI (cv + cnt (k + 1) (LHr (sE st) (sL st) (sR st) (sNl st)))) ((nI_add _ _).trans (congrArg nI (Nat.add_assoc _ _ _))) ?_
      refine lv_istore (lv' := [(4, .int (nI (cv + cnt (k + 1) (LHr (sE st) (sL st) (sR st) (sNl st))))), (0, .ref (h 0)), (1, .ref (g 0)), (2, .int (nI x)), (3, .int (nI 1)), (5, .int (nI k))]) hx hb dL_alike_218 hl (by decide) rfl (fun ls hl => ?_)
      refine lv_aload_n hx hb dL_alike_220 rfl (lv_at hl 1 rfl) ?_
      refine lv_iload hx hb dL_alike_221 (lv_at hl 5 rfl) ?_
      refine j_calliM (vx_runSW (As := [.ref (h 0), .int (nI k)]) (rest := []) C.fix (c_L_rightPart l hl0 D aI aJ aZ h st u_214 (nI k) hi H.size) (vx_cwSW 2 hts gL_alike_L_rightPart rfl rfl rfl (by decide +kernel) ⟨Nat.le_trans (m := 22) (Nat.le_of_ble_eq_true rfl) hRf, Nat.le_trans (m := 600) (Nat.le_of_ble_eq_true rfl) hRl⟩) (jxPreS hXs hA hS hN hK hP hD [0, 1, 2, 3, 4, 5, 6, 7, 8, 9, 10, 11, 12, 13, 14, 15, 16, 17, 18, 19, 20] rfl rfl (by decide)) rfl rfl hl.1 rfl (lv_room (Nat.le_of_ble_eq_true rfl)) dL_alike_223 ⟨by omega, by omega⟩) hA hP hD hS [0, 1, 2, 3, 4, 5, 6, 7, 8, 9, 10, 11, 12, 13, 14, 15, 16, 17, 18, 19, 20] [21, 22, 23, 24, 25, 26, 27, 28, 29, 30, 31, 32, 33, 34, 35, 36, 37, 38, 39, 40, 41] (wr := HC aI aJ g tt jt) rfl rfl (by decide) (by decide) (fun r_223 u_223 H locs q_223 hP hD hS => ?_)
      have hP := hP.sub (ws' := HC aI aJ h st u_223 ++ (HC aI aJ g tt jt)) [21, 22, 23, 24, 25, 26, 27, 28, 29, 30, 31, 32, 33, 34, 35, 36, 37, 38, 39, 40, 41, 0, 1, 2, 3, 4, 5, 6, 7, 8, 9, 10, 11, 12, 13, 14, 15, 16, 17, 18, 19, 20] rfl
      have hD := hD.sub (ws' := HC aI aJ h st u_223 ++ (HC aI aJ g tt jt)) [21, 22, 23, 24, 25, 26, 27, 28, 29, 30, 31, 32, 33, 34, 35, 36, 37, 38, 39, 40, 41, 0, 1, 2, 3, 4, 5, 6, 7, 8, 9, 10, 11, 12, 13, 14, 15, 16, 17, 18, 19, 20] (by decide) rfl
      have hP : va_P D vwCl (HC aI aJ h st u_223 ++ (HC aI aJ g tt jt)) H := hP
      have hD : va_D A (HC aI aJ h st u_223 ++ (HC aI aJ g tt jt)) := hD
      refine j_topi (y := nI (pR (sE st) (sL st) (sR st) (sNl st) (sNr st) k)) (rp_at (ix_of (by omega) hk rfl) q_223) ?_
      refine lv_iconst (v := nI 2) hx hb dL_alike_226 (by decide) ?_
      refine lv_aload_n hx hb dL_alike_227 rfl (lv_at hl 2 rfl) ?_
      refine lv_iload hx hb dL_alike_228 (lv_at hl 5 rfl) ?_
      refine j_calliM (vx_runSW (As := [.ref (g 0), .int (nI k)]) (rest := [.int (nI 2), .int (nI (pR (sE st) (sL st) (sR st) (sNl st) (sNr st) k))]) C.fix (c_L_leftPart l hl0 D aI aJ aZ g tt jt (nI k) hj H.size) (vx_cwSW 2 hts gL_alike_L_leftPart rfl rfl rfl (by decide +kernel) ⟨Nat.le_trans (m := 22) (Nat.le_of_ble_eq_true rfl) hRf, Nat.le_trans (m := 600) (Nat.le_of_ble_eq_true rfl) hRl⟩) (jxPreS hXs hA hS hN hK hP hD [21, 22, 23, 24, 25, 26, 27, 28, 29, 30, 31, 32, 33, 34, 35, 36, 37, 38, 39, 40, 41] rfl rfl (by decide)) rfl rfl hl.1 rfl (lv_room (Nat.le_of_ble_eq_true rfl)) dL_alike_230 ⟨by omega, by omega⟩) hA hP hD hS [21, 22, 23, 24, 25, 26, 27, 28, 29, 30, 31, 32, 33, 34, 35, 36, 37, 38, 39, 40, 41] [0, 1, 2, 3, 4, 5, 6, 7, 8, 9, 10, 11, 12, 13, 14, 15, 16, 17, 18, 19, 20] (wr := HC aI aJ h st u_223) rfl rfl (by decide) (by decide) (fun r_230 u_230 H locs q_230 hP hD hS => ?_)
      have hP : va_P D vwCl (HC aI aJ h st u_223 ++ (HC aI aJ g tt u_230)) H := hP
      have hD : va_D A (HC aI aJ h st u_223 ++ (HC aI aJ g tt u_230)) := hD
      refine j_topi (y := nI (pL (sE tt) (sL tt) (sR tt) (sNl tt) (sNr tt) k)) (lpp_at (ix_of (by omega) (by rw [u.nl]; exact hk) rfl) q_230) ?_
      refine lv_isub hx hb dL_alike_233 ?_
      refine j_topi (y := nI (pR (sE st) (sL st) (sR st) (sNl st) (sNr st) k)) (u.ptr k) ?_
      refine lv_icmp_ne (tgt := 260) hx hb dL_alike_234 (by decide) (fun c_234 => ?_) (fun c_234 => ?_)
      · exact absurd rfl c_234
      · clear c_234
        refine lv_aload_n hx hb dL_alike_237 rfl (lv_at hl 1 rfl) ?_
        refine lv_iload hx hb dL_alike_238 (lv_at hl 5 rfl) ?_
        refine j_calliM (vx_runSW (As := [.ref (h 0), .int (nI k)]) (rest := []) C.fix (c_L_ofRight l hl0 D aI aJ aZ h st u_223 (nI k) hi H.size) (vx_cwSW 2 hts gL_alike_L_ofRight rfl rfl rfl (by decide +kernel) ⟨Nat.le_trans (m := 22) (Nat.le_of_ble_eq_true rfl) hRf, Nat.le_trans (m := 600) (Nat.le_of_ble_eq_true rfl) hRl⟩) (jxPreS hXs hA hS hN hK hP hD [0, 1, 2, 3, 4, 5, 6, 7, 8, 9, 10, 11, 12, 13, 14, 15, 16, 17, 18, 19, 20] rfl rfl (by decide)) rfl rfl hl.1 rfl (lv_room (Nat.le_of_ble_eq_true rfl)) dL_alike_240 ⟨by omega, by omega⟩) hA hP hD hS [0, 1, 2, 3, 4, 5, 6, 7, 8, 9, 10, 11, 12, 13, 14, 15, 16, 17, 18, 19, 20] [21, 22, 23, 24, 25, 26, 27, 28, 29, 30, 31, 32, 33, 34, 35, 36, 37, 38, 39, 40, 41] (wr := HC aI aJ g tt u_230) rfl rfl (by decide) (by decide) (fun r_240 u_240 H locs q_240 hP hD hS => ?_)
        have hP := hP.sub (ws' := HC aI aJ h st u_240 ++ (HC aI aJ g tt u_230)) [21, 22, 23, 24, 25, 26, 27, 28, 29, 30, 31, 32, 33, 34, 35, 36, 37, 38, 39, 40, 41, 0, 1, 2, 3, 4, 5, 6, 7, 8, 9, 10, 11, 12, 13, 14, 15, 16, 17, 18, 19, 20] rfl
        have hD := hD.sub (ws' := HC aI aJ h st u_240 ++ (HC aI aJ g tt u_230)) [21, 22, 23, 24, 25, 26, 27, 28, 29, 30, 31, 32, 33, 34, 35, 36, 37, 38, 39, 40, 41, 0, 1, 2, 3, 4, 5, 6, 7, 8, 9, 10, 11, 12, 13, 14, 15, 16, 17, 18, 19, 20] (by decide) rfl
        have hP : va_P D vwCl (HC aI aJ h st u_240 ++ (HC aI aJ g tt u_230)) H := hP
        have hD : va_D A (HC aI aJ h st u_240 ++ (HC aI aJ g tt u_230)) := hD
        refine j_topi (y := pv (sR st k)) (or_at (ix_of (by omega) hk rfl) q_240) ?_
        refine lv_if_ge (tgt := 256) hx hb dL_alike_243 (by decide) (fun c_243 => ?_) (fun c_243 => ?_)
        · refine lv_iconst (v := nI 1) hx hb dL_alike_256 (by decide) ?_
          refine lv_goto (tgt := 261) hx hb dL_alike_257 (by decide) ?_
          refine lv_istore_n (lv' := [(3, .int (nI 1)), (4, .int (nI (cv + cnt (k + 1) (LHr (sE st) (sL st) (sR st) (sNl st))))), (0, .ref (h 0)), (1, .ref (g 0)), (2, .int (nI x)), (5, .int (nI k))]) hx hb dL_alike_261 rfl hl (by decide) rfl (fun ls hl => ?_)
          refine lv_iinc (v := nI (k + 1)) (lv' := [(5, .int (nI (k + 1))), (3, .int (nI 1)), (4, .int (nI (cv + cnt (k + 1) (LHr (sE st) (sL st) (sR st) (sNl st))))), (0, .ref (h 0)), (1, .ref (g 0)), (2, .int (nI x))]) hx hb dL_alike_262 hl (k := 5) rfl (inc_nI _ _) (by decide) rfl (fun ls hl => ?_)
          refine lv_goto (tgt := 196) hx hb dL_alike_265 (by decide) ?_
          have hl := lv_sub (l' := [(0, .ref (h 0)), (1, .ref (g 0)), (2, .int (nI x)), (3, .int (nI 1)), (4, .int (nI (cv + cnt (k + 1) (LHr (sE st) (sL st) (sR st) (sNl st))))), (5, .int (nI (k + 1)))]) hl [3, 4, 5, 1, 2, 0] rfl
          exact kn u_240 u_230 H _ ls _ _ hk hP hD hS hl (by omega) (by omega)
        · have hz := pv_neg (fun v hv => by have := hmR k v hv; omega) c_243
          refine lv_aload_n hx hb dL_alike_246 rfl (lv_at hl 1 rfl) ?_
          refine lv_iload hx hb dL_alike_247 (lv_at hl 5 rfl) ?_
          refine j_calliM (vx_runSW (As := [.ref (h 0), .int (nI k)]) (rest := []) C.fix (c_L_rightPart l hl0 D aI aJ aZ h st u_240 (nI k) hi H.size) (vx_cwSW 2 hts gL_alike_L_rightPart rfl rfl rfl (by decide +kernel) ⟨Nat.le_trans (m := 22) (Nat.le_of_ble_eq_true rfl) hRf, Nat.le_trans (m := 600) (Nat.le_of_ble_eq_true rfl) hRl⟩) (jxPreS hXs hA hS hN hK hP hD [0, 1, 2, 3, 4, 5, 6, 7, 8, 9, 10, 11, 12, 13, 14, 15, 16, 17, 18, 19, 20] rfl rfl (by decide)) rfl rfl hl.1 rfl (lv_room (Nat.le_of_ble_eq_true rfl)) dL_alike_249 ⟨by omega, by omega⟩) hA hP hD hS [0, 1, 2, 3, 4, 5, 6, 7, 8, 9, 10, 11, 12, 13, 14, 15, 16, 17, 18, 19, 20] [21, 22, 23, 24, 25, 26, 27, 28, 29, 30, 31, 32, 33, 34, 35, 36, 37, 38, 39, 40, 41] (wr := HC aI aJ g tt u_230) rfl rfl (by decide) (by decide) (fun r_249 u_249 H locs q_249 hP hD hS => ?_)
          have hP := hP.sub (ws' := HC aI aJ h st u_249 ++ (HC aI aJ g tt u_230)) [21, 22, 23, 24, 25, 26, 27, 28, 29, 30, 31, 32, 33, 34, 35, 36, 37, 38, 39, 40, 41, 0, 1, 2, 3, 4, 5, 6, 7, 8, 9, 10, 11, 12, 13, 14, 15, 16, 17, 18, 19, 20] rfl
          have hD := hD.sub (ws' := HC aI aJ h st u_249 ++ (HC aI aJ g tt u_230)) [21, 22, 23, 24, 25, 26, 27, 28, 29, 30, 31, 32, 33, 34, 35, 36, 37, 38, 39, 40, 41, 0, 1, 2, 3, 4, 5, 6, 7, 8, 9, 10, 11, 12, 13, 14, 15, 16, 17, 18, 19, 20] (by decide) rfl
          have hP : va_P D vwCl (HC aI aJ h st u_249 ++ (HC aI aJ g tt u_230)) H := hP
          have hD : va_D A (HC aI aJ h st u_249 ++ (HC aI aJ g tt u_230)) := hD
          refine j_topi (y := nI 2) ((rp_at (ix_of (by omega) hk rfl) q_249).trans (congrArg nI (u.pR2 hk hz))) ?_
          refine lv_iconst (v := nI 2) hx hb dL_alike_252 (by decide) ?_
          refine lv_icmp_ne (tgt := 260) hx hb dL_alike_253 (by decide) (fun c_253 => ?_) (fun c_253 => ?_)
          · exact absurd rfl c_253
          · clear c_253
            refine lv_iconst (v := nI 1) hx hb dL_alike_256 (by decide) ?_
            refine lv_goto (tgt := 261) hx hb dL_alike_257 (by decide) ?_
            refine lv_istore_n (lv' := [(3, .int (nI 1)), (4, .int (nI (cv + cnt (k + 1) (LHr (sE st) (sL st) (sR st) (sNl st))))), (0, .ref (h 0)), (1, .ref (g 0)), (2, .int (nI x)), (5, .int (nI k))]) hx hb dL_alike_261 rfl hl (by decide) rfl (fun ls hl => ?_)
            refine lv_iinc (v := nI (k + 1)) (lv' := [(5, .int (nI (k + 1))), (3, .int (nI 1)), (4, .int (nI (cv + cnt (k + 1) (LHr (sE st) (sL st) (sR st) (sNl st))))), (0, .ref (h 0)), (1, .ref (g 0)), (2, .int (nI x))]) hx hb dL_alike_262 hl (k := 5) rfl (inc_nI _ _) (by decide) rfl (fun ls hl => ?_)
            refine lv_goto (tgt := 196) hx hb dL_alike_265 (by decide) ?_
            have hl := lv_sub (l' := [(0, .ref (h 0)), (1, .ref (g 0)), (2, .int (nI x)), (3, .int (nI 1)), (4, .int (nI (cv + cnt (k + 1) (LHr (sE st) (sL st) (sR st) (sNl st))))), (5, .int (nI (k + 1)))]) hl [3, 4, 5, 1, 2, 0] rfl
            exact kn u_249 u_230 H _ ls _ _ hk hP hD hS hl (by omega) (by omega)
theorem al_C (l : Launch) (hl0 : l.stackTraces = false) (hRf : 22 ≤ R.frames) (hRl : 600 ≤ R.locals) (C : jC p s m meth c cL_alike 9 (some .boolean) RL wsL_alike D (jT aI aJ aZ) args A nm) (hXs : jXs A s s.heap) (u : TU st tt) {c0 s0 : Nat} (hRc : c0 + 78 ≤ R.cells) (hRs : s0 + 468 ≤ R.slots)
    (kx : ∀ (j jt : Jk) (H : Heap) (locs : List Loc) (ls : Array Slot) (c1 s1 : Nat), va_P D vwCl (HC aI aJ h st j ++ (HC aI aJ g tt jt)) H → va_D A (HC aI aJ h st j ++ (HC aI aJ g tt jt)) → va_S A s.heap H locs → lv_has ls 9 [(0, .ref (h 0)), (1, .ref (g 0)), (2, .int (nI x)), (3, .int (nI 1)), (4, .int (nI (cv + cnt (sNr st) (LHr (sE st) (sL st) (sR st) (sNl st))))), (5, .int (nI (sNr st)))] → c1 ≤ c0 + 78 → s1 ≤ s0 + 468 → W p l e R s m args below meth c H locs c1 s1 Q (F0 m 268 ls [])) :
    ∀ (N k : Nat) (j jt : Jk) (H : Heap) (locs : List Loc) (ls : Array Slot) (c1 s1 : Nat), k + N = sNr st + 1 → k ≤ sNr st → va_P D vwCl (HC aI aJ h st j ++ (HC aI aJ g tt jt)) H → va_D A (HC aI aJ h st j ++ (HC aI aJ g tt jt)) → va_S A s.heap H locs → lv_has ls 9 [(0, .ref (h 0)), (1, .ref (g 0)), (2, .int (nI x)), (3, .int (nI 1)), (4, .int (nI (cv + cnt k (LHr (sE st) (sL st) (sR st) (sNl st))))), (5, .int (nI k))] → c1 ≤ c0 + 6 * k → s1 ≤ s0 + 36 * k → W p l e R s m args below meth c H locs c1 s1 Q (F0 m 196 ls []) := by
  have hnl := u.hnl
  have hnr := u.hnr
  intro N
  induction N with
  | zero => intro k j jt H locs ls c1 s1 h1 h2; omega
  | succ N ih =>
    intro k j jt H locs ls c1 s1 h1 h2 hP hD hS hl k1 k2
    exact al_C1 l hl0 hRf hRl C hXs u h2 hP hD hS hl (by omega) (by omega) (fun j jt H locs ls c2 s2 hP hD hS hl k3 k4 => kx j jt H locs ls c2 s2 hP hD hS hl (by omega) (by omega))
      (fun j jt H locs ls c2 s2 hk hP hD hS hl k3 k4 => ih (k + 1) j jt H locs ls c2 s2 (by omega) (by omega) hP hD hS hl (by omega) (by omega))
set_option maxHeartbeats 4000000 in
set_option maxRecDepth 100000 in
theorem al_D  (l : Launch) (hl0 : l.stackTraces = false) (hRf : 22 ≤ R.frames) (hRl : 600 ≤ R.locals) (C : jC p s m meth c cL_alike 9 (some .boolean) RL wsL_alike D (jT aI aJ aZ) args A nm) (hXs : jXs A s s.heap) (u : TU st tt) (hP : va_P D vwCl (HC aI aJ h st j ++ (HC aI aJ g tt jt)) H) (hD : va_D A (HC aI aJ h st j ++ (HC aI aJ g tt jt))) (hS : va_S A s.heap H locs) (hl : lv_has ls 9 [(0, .ref (h 0)), (1, .ref (g 0)), (2, .int (nI x)), (3, .int (nI 1)), (4, .int (nI cv))]) (hRc : cells + 0 ≤ R.cells) (hRs : slots + 0 ≤ R.slots) (kx : ∀ (j jt : Jk) (H : Heap) (locs : List Loc) (ls : Array Slot) (c1 s1 : Nat), va_P D vwCl (HC aI aJ h st j ++ (HC aI aJ g tt jt)) H → va_D A (HC aI aJ h st j ++ (HC aI aJ g tt jt)) → va_S A s.heap H locs → lv_has ls 9 [(0, .ref (h 0)), (1, .ref (g 0)), (2, .int (nI x)), (3, .int (nI 1)), (4, .int (nI cv))] → c1 ≤ cells + 0 → s1 ≤ slots + 0 → W p l e R s m args below meth c H locs c1 s1 Q (F0 m 489 ls [])) (kn : ∀ (j jt : Jk) (H : Heap) (locs : List Loc) (ls : Array Slot) (c1 s1 : Nat), (0 < sNl st) → (0 < sNr st) → va_P D vwCl (HC aI aJ h st j ++ (HC aI aJ g tt jt)) H → va_D A (HC aI aJ h st j ++ (HC aI aJ g tt jt)) → va_S A s.heap H locs → lv_has ls 9 [(0, .ref (h 0)), (1, .ref (g 0)), (2, .int (nI x)), (3, .int (nI 1)), (4, .int (nI cv)), (5, .int (nI 0))] → c1 ≤ cells + 0 → s1 ≤ slots + 0 → W p l e R s m args below meth c H locs c1 s1 Q (F0 m 289 ls [])) : W p l e R s m args below meth c H locs cells slots Q (F0 m 268 ls []) := by
  obtain ⟨hx, hb, hml, hown, hts, hK, hA, hlocks, hr, hn, hN⟩ := id C
  have hi := u.hs
  have hj := u.ht
  have hnl := u.hnl
  have hnr := u.hnr
  have hle : sN st ≤ sNl st := by rw [u.other.2.2.2.1]; exact sz_le _ _
  have hmL := u.hs.b12
  have hmR := u.hs.r12
  have htl : sNl tt ≤ 12 := u.ht.1
  have htr : sNr tt ≤ 12 := u.ht.2.1
  refine lv_iload_n hx hb dL_alike_268 rfl (lv_at hl 3 rfl) ?_
  refine lv_if_eq (tgt := 489) hx hb dL_alike_269 (by decide) (fun c_269 => ?_) (fun c_269 => ?_)
  · exact absurd c_269 (by decide)
  · clear c_269
    refine lv_aload_n hx hb dL_alike_272 rfl (lv_at hl 0 rfl) ?_
    refine j_calli (va_runV (As := []) (rest := []) C.fix (k_lefts l D aI aJ aZ h st j hi H.size) (cwV 0 hts gL_alike_X6_lefts rfl rfl rfl (by decide +kernel) ⟨Nat.le_trans (m := 22) (Nat.le_of_ble_eq_true rfl) hRf, Nat.le_trans (m := 600) (Nat.le_of_ble_eq_true rfl) hRl⟩) (jPreV hN hK hP hD [0, 1, 2, 3, 4, 5, 6, 7, 8, 9, 10, 11, 12, 13, 14, 15, 16, 17, 18, 19, 20] rfl rfl (by decide) (ci := 6) (q0 := 0) rfl rfl) rfl rfl hl.1 rfl (lv_room (Nat.le_of_ble_eq_true rfl)) dL_alike_273 ⟨by omega, by omega⟩) hA hP hD hS [0, 1, 2, 3, 4, 5, 6, 7, 8, 9, 10, 11, 12, 13, 14, 15, 16, 17, 18, 19, 20] [21, 22, 23, 24, 25, 26, 27, 28, 29, 30, 31, 32, 33, 34, 35, 36, 37, 38, 39, 40, 41] (wr := HC aI aJ g tt jt) rfl rfl (by decide) (by decide) (fun r_273 u_273 H locs q_273 hP hD hS => ?_)
    have hP := hP.sub (ws' := HC aI aJ h st u_273 ++ (HC aI aJ g tt jt)) [21, 22, 23, 24, 25, 26, 27, 28, 29, 30, 31, 32, 33, 34, 35, 36, 37, 38, 39, 40, 41, 0, 1, 2, 3, 4, 5, 6, 7, 8, 9, 10, 11, 12, 13, 14, 15, 16, 17, 18, 19, 20] rfl
    have hD := hD.sub (ws' := HC aI aJ h st u_273 ++ (HC aI aJ g tt jt)) [21, 22, 23, 24, 25, 26, 27, 28, 29, 30, 31, 32, 33, 34, 35, 36, 37, 38, 39, 40, 41, 0, 1, 2, 3, 4, 5, 6, 7, 8, 9, 10, 11, 12, 13, 14, 15, 16, 17, 18, 19, 20] (by decide) rfl
    have hP : va_P D vwCl (HC aI aJ h st u_273 ++ (HC aI aJ g tt jt)) H := hP
    have hD : va_D A (HC aI aJ h st u_273 ++ (HC aI aJ g tt jt)) := hD
    refine j_topi (y := nI (sNl st)) (q_273) ?_
    refine lv_if_le (tgt := 489) hx hb dL_alike_276 (by decide) (fun c_276 => ?_) (fun c_276 => ?_)
    · have hl := lv_sub (l' := [(0, .ref (h 0)), (1, .ref (g 0)), (2, .int (nI x)), (3, .int (nI 1)), (4, .int (nI cv))]) hl [0, 1, 2, 3, 4] rfl
      exact kx u_273 jt H _ ls _ _ hP hD hS hl (by omega) (by omega)
    · have hl1 : 0 < sNl st := by
          refine Nat.pos_of_ne_zero (fun z => c_276 ?_)
          rw [z]
          exact Int32.le_refl _
      refine lv_aload_n hx hb dL_alike_279 rfl (lv_at hl 0 rfl) ?_
      refine j_calli (va_runV (As := []) (rest := []) C.fix (k_rights l D aI aJ aZ h st u_273 hi H.size) (cwV 0 hts gL_alike_X6_rights rfl rfl rfl (by decide +kernel) ⟨Nat.le_trans (m := 22) (Nat.le_of_ble_eq_true rfl) hRf, Nat.le_trans (m := 600) (Nat.le_of_ble_eq_true rfl) hRl⟩) (jPreV hN hK hP hD [0, 1, 2, 3, 4, 5, 6, 7, 8, 9, 10, 11, 12, 13, 14, 15, 16, 17, 18, 19, 20] rfl rfl (by decide) (ci := 6) (q0 := 0) rfl rfl) rfl rfl hl.1 rfl (lv_room (Nat.le_of_ble_eq_true rfl)) dL_alike_280 ⟨by omega, by omega⟩) hA hP hD hS [0, 1, 2, 3, 4, 5, 6, 7, 8, 9, 10, 11, 12, 13, 14, 15, 16, 17, 18, 19, 20] [21, 22, 23, 24, 25, 26, 27, 28, 29, 30, 31, 32, 33, 34, 35, 36, 37, 38, 39, 40, 41] (wr := HC aI aJ g tt jt) rfl rfl (by decide) (by decide) (fun r_280 u_280 H locs q_280 hP hD hS => ?_)
      have hP := hP.sub (ws' := HC aI aJ h st u_280 ++ (HC aI aJ g tt jt)) [21, 22, 23, 24, 25, 26, 27, 28, 29, 30, 31, 32, 33, 34, 35, 36, 37, 38, 39, 40, 41, 0, 1, 2, 3, 4, 5, 6, 7, 8, 9, 10, 11, 12, 13, 14, 15, 16, 17, 18, 19, 20] rfl
      have hD := hD.sub (ws' := HC aI aJ h st u_280 ++ (HC aI aJ g tt jt)) [21, 22, 23, 24, 25, 26, 27, 28, 29, 30, 31, 32, 33, 34, 35, 36, 37, 38, 39, 40, 41, 0, 1, 2, 3, 4, 5, 6, 7, 8, 9, 10, 11, 12, 13, 14, 15, 16, 17, 18, 19, 20] (by decide) rfl
      have hP : va_P D vwCl (HC aI aJ h st u_280 ++ (HC aI aJ g tt jt)) H := hP
      have hD : va_D A (HC aI aJ h st u_280 ++ (HC aI aJ g tt jt)) := hD
      refine j_topi (y := nI (sNr st)) (q_280) ?_
      refine lv_if_le (tgt := 489) hx hb dL_alike_283 (by decide) (fun c_283 => ?_) (fun c_283 => ?_)
      · have hl := lv_sub (l' := [(0, .ref (h 0)), (1, .ref (g 0)), (2, .int (nI x)), (3, .int (nI 1)), (4, .int (nI cv))]) hl [0, 1, 2, 3, 4] rfl
        exact kx u_280 jt H _ ls _ _ hP hD hS hl (by omega) (by omega)
      · have hr1 : 0 < sNr st := by
            refine Nat.pos_of_ne_zero (fun z => c_283 ?_)
            rw [z]
            exact Int32.le_refl _
        refine lv_iconst (v := nI 0) hx hb dL_alike_286 (by decide) ?_
        refine lv_istore (lv' := [(5, .int (nI 0)), (0, .ref (h 0)), (1, .ref (g 0)), (2, .int (nI x)), (3, .int (nI 1)), (4, .int (nI cv))]) hx hb dL_alike_287 hl (by decide) rfl (fun ls hl => ?_)
        have hl := lv_sub (l' := [(0, .ref (h 0)), (1, .ref (g 0)), (2, .int (nI x)), (3, .int (nI 1)), (4, .int (nI cv)), (5, .int (nI 0))]) hl [1, 2, 3, 4, 5, 0] rfl
        exact kn u_280 jt H _ ls _ _ hl1 hr1 hP hD hS hl (by omega) (by omega)
set_option maxHeartbeats 4000000 in
set_option maxRecDepth 100000 in
theorem al_E  (l : Launch) (hl0 : l.stackTraces = false) (hRf : 22 ≤ R.frames) (hRl : 600 ≤ R.locals) (C : jC p s m meth c cL_alike 9 (some .boolean) RL wsL_alike D (jT aI aJ aZ) args A nm) (hXs : jXs A s s.heap) (u : TU st tt) (hl1 : 0 < sNl st) (hr1 : 0 < sNr st) (hx2 : x < 2 ^ 30) (hk6 : k ≤ 6) (hP : va_P D vwCl (HC aI aJ h st j ++ (HC aI aJ g tt jt)) H) (hD : va_D A (HC aI aJ h st j ++ (HC aI aJ g tt jt))) (hS : va_S A s.heap H locs) (hl : lv_has ls 9 [(0, .ref (h 0)), (1, .ref (g 0)), (2, .int (nI x)), (3, .int (nI 1)), (4, .int (nI cv)), (5, .int (nI k))]) (hRc : cells + 0 ≤ R.cells) (hRs : slots + 0 ≤ R.slots) (kx : ∀ (j jt : Jk) (H : Heap) (locs : List Loc) (ls : Array Slot) (c1 s1 : Nat), va_P D vwCl (HC aI aJ h st j ++ (HC aI aJ g tt jt)) H → va_D A (HC aI aJ h st j ++ (HC aI aJ g tt jt)) → va_S A s.heap H locs → lv_has ls 9 [(0, .ref (h 0)), (1, .ref (g 0)), (2, .int (nI x)), (3, .int (nI 1)), (4, .int (nI cv))] → c1 ≤ cells + 0 → s1 ≤ slots + 0 → W p l e R s m args below meth c H locs c1 s1 Q (F0 m 489 ls [])) (kn : ∀ (i jj : Nat) (j jt : Jk) (H : Heap) (locs : List Loc) (ls : Array Slot) (c1 s1 : Nat), (k < 6) → (i < sNl st) → (jj < sNr st) → va_P D vwCl (HC aI aJ h st j ++ (HC aI aJ g tt jt)) H → va_D A (HC aI aJ h st j ++ (HC aI aJ g tt jt)) → va_S A s.heap H locs → lv_has ls 9 [(0, .ref (h 0)), (1, .ref (g 0)), (2, .int (nI x)), (3, .int (nI 1)), (4, .int (nI cv)), (5, .int (nI k)), (6, .int (nI i)), (7, .int (nI jj))] → c1 ≤ cells + 0 → s1 ≤ slots + 0 → W p l e R s m args below meth c H locs c1 s1 Q (F0 m 322 ls [])) : W p l e R s m args below meth c H locs cells slots Q (F0 m 289 ls []) := by
  obtain ⟨hx, hb, hml, hown, hts, hK, hA, hlocks, hr, hn, hN⟩ := id C
  have hi := u.hs
  have hj := u.ht
  have hnl := u.hnl
  have hnr := u.hnr
  have hle : sN st ≤ sNl st := by rw [u.other.2.2.2.1]; exact sz_le _ _
  have hmL := u.hs.b12
  have hmR := u.hs.r12
  have htl : sNl tt ≤ 12 := u.ht.1
  have htr : sNr tt ≤ 12 := u.ht.2.1
  refine lv_iload hx hb dL_alike_289 (lv_at hl 5 rfl) ?_
  refine lv_bipush (v := nI 6) hx hb dL_alike_291 (by decide) ?_
  refine lv_icmp_ge (tgt := 489) hx hb dL_alike_293 (by decide) (fun c_293 => ?_) (fun c_293 => ?_)
  · rw [cv_le (by decide) (by omega)] at c_293
    have hl := lv_sub (l' := [(0, .ref (h 0)), (1, .ref (g 0)), (2, .int (nI x)), (3, .int (nI 1)), (4, .int (nI cv))]) hl [0, 1, 2, 3, 4] rfl
    exact kx j jt H _ ls _ _ hP hD hS hl (by omega) (by omega)
  · rw [cv_le (by decide) (by omega)] at c_293
    have hk : k < 6 := by omega
    refine lv_iload_n hx hb dL_alike_296 rfl (lv_at hl 3 rfl) ?_
    refine lv_if_eq (tgt := 489) hx hb dL_alike_297 (by decide) (fun c_297 => ?_) (fun c_297 => ?_)
    · exact absurd c_297 (by decide)
    · clear c_297
      refine lv_iload_n hx hb dL_alike_300 rfl (lv_at hl 2 rfl) ?_
      refine lv_iload hx hb dL_alike_301 (lv_at hl 5 rfl) ?_
      refine lv_iadd hx hb dL_alike_303 ?_
      refine j_topi (y := nI (x + k)) (nI_add _ _) ?_
      refine lv_aload_n hx hb dL_alike_304 rfl (lv_at hl 0 rfl) ?_
      refine j_calli (va_runV (As := []) (rest := [.int (nI (x + k))]) C.fix (k_lefts l D aI aJ aZ h st j hi H.size) (cwV 0 hts gL_alike_X6_lefts rfl rfl rfl (by decide +kernel) ⟨Nat.le_trans (m := 22) (Nat.le_of_ble_eq_true rfl) hRf, Nat.le_trans (m := 600) (Nat.le_of_ble_eq_true rfl) hRl⟩) (jPreV hN hK hP hD [0, 1, 2, 3, 4, 5, 6, 7, 8, 9, 10, 11, 12, 13, 14, 15, 16, 17, 18, 19, 20] rfl rfl (by decide) (ci := 6) (q0 := 0) rfl rfl) rfl rfl hl.1 rfl (lv_room (Nat.le_of_ble_eq_true rfl)) dL_alike_305 ⟨by omega, by omega⟩) hA hP hD hS [0, 1, 2, 3, 4, 5, 6, 7, 8, 9, 10, 11, 12, 13, 14, 15, 16, 17, 18, 19, 20] [21, 22, 23, 24, 25, 26, 27, 28, 29, 30, 31, 32, 33, 34, 35, 36, 37, 38, 39, 40, 41] (wr := HC aI aJ g tt jt) rfl rfl (by decide) (by decide) (fun r_305 u_305 H locs q_305 hP hD hS => ?_)
      have hP := hP.sub (ws' := HC aI aJ h st u_305 ++ (HC aI aJ g tt jt)) [21, 22, 23, 24, 25, 26, 27, 28, 29, 30, 31, 32, 33, 34, 35, 36, 37, 38, 39, 40, 41, 0, 1, 2, 3, 4, 5, 6, 7, 8, 9, 10, 11, 12, 13, 14, 15, 16, 17, 18, 19, 20] rfl
      have hD := hD.sub (ws' := HC aI aJ h st u_305 ++ (HC aI aJ g tt jt)) [21, 22, 23, 24, 25, 26, 27, 28, 29, 30, 31, 32, 33, 34, 35, 36, 37, 38, 39, 40, 41, 0, 1, 2, 3, 4, 5, 6, 7, 8, 9, 10, 11, 12, 13, 14, 15, 16, 17, 18, 19, 20] (by decide) rfl
      have hP : va_P D vwCl (HC aI aJ h st u_305 ++ (HC aI aJ g tt jt)) H := hP
      have hD : va_D A (HC aI aJ h st u_305 ++ (HC aI aJ g tt jt)) := hD
      refine j_topi (y := nI (sNl st)) (q_305) ?_
      refine lv_irem hx hb dL_alike_308 (nI_ne0 hl1 (by omega)) ?_
      refine j_topi (y := nI ((x + k) % (sNl st))) (pk_rem (by omega) (hl1) (by omega)) ?_
      refine lv_istore (lv' := [(6, .int (nI ((x + k) % (sNl st)))), (0, .ref (h 0)), (1, .ref (g 0)), (2, .int (nI x)), (3, .int (nI 1)), (4, .int (nI cv)), (5, .int (nI k))]) hx hb dL_alike_309 hl (by decide) rfl (fun ls hl => ?_)
      refine lv_iload_n hx hb dL_alike_311 rfl (lv_at hl 3 rfl) ?_
      refine lv_bipush (v := nI 12) hx hb dL_alike_312 (by decide) ?_
      refine lv_idiv hx hb dL_alike_314 (by decide) ?_
      refine j_topi (y := nI (x / 12)) (pk_div (by omega) (by omega) (by omega)) ?_
      refine lv_aload_n hx hb dL_alike_315 rfl (lv_at hl 1 rfl) ?_
      refine j_calli (va_runV (As := []) (rest := [.int (nI (x / 12))]) C.fix (k_rights l D aI aJ aZ h st u_305 hi H.size) (cwV 0 hts gL_alike_X6_rights rfl rfl rfl (by decide +kernel) ⟨Nat.le_trans (m := 22) (Nat.le_of_ble_eq_true rfl) hRf, Nat.le_trans (m := 600) (Nat.le_of_ble_eq_true rfl) hRl⟩) (jPreV hN hK hP hD [0, 1, 2, 3, 4, 5, 6, 7, 8, 9, 10, 11, 12, 13, 14, 15, 16, 17, 18, 19, 20] rfl rfl (by decide) (ci := 6) (q0 := 0) rfl rfl) rfl rfl hl.1 rfl (lv_room (Nat.le_of_ble_eq_true rfl)) dL_alike_316 ⟨by omega, by omega⟩) hA hP hD hS [0, 1, 2, 3, 4, 5, 6, 7, 8, 9, 10, 11, 12, 13, 14, 15, 16, 17, 18, 19, 20] [21, 22, 23, 24, 25, 26, 27, 28, 29, 30, 31, 32, 33, 34, 35, 36, 37, 38, 39, 40, 41] (wr := HC aI aJ g tt jt) rfl rfl (by decide) (by decide) (fun r_316 u_316 H locs q_316 hP hD hS => ?_)
      have hP := hP.sub (ws' := HC aI aJ h st u_316 ++ (HC aI aJ g tt jt)) [21, 22, 23, 24, 25, 26, 27, 28, 29, 30, 31, 32, 33, 34, 35, 36, 37, 38, 39, 40, 41, 0, 1, 2, 3, 4, 5, 6, 7, 8, 9, 10, 11, 12, 13, 14, 15, 16, 17, 18, 19, 20] rfl
      have hD := hD.sub (ws' := HC aI aJ h st u_316 ++ (HC aI aJ g tt jt)) [21, 22, 23, 24, 25, 26, 27, 28, 29, 30, 31, 32, 33, 34, 35, 36, 37, 38, 39, 40, 41, 0, 1, 2, 3, 4, 5, 6, 7, 8, 9, 10, 11, 12, 13, 14, 15, 16, 17, 18, 19, 20] (by decide) rfl
      have hP : va_P D vwCl (HC aI aJ h st u_316 ++ (HC aI aJ g tt jt)) H := hP
      have hD : va_D A (HC aI aJ h st u_316 ++ (HC aI aJ g tt jt)) := hD
      refine j_topi (y := nI (sNr st)) (q_316) ?_
      refine lv_irem hx hb dL_alike_319 (nI_ne0 hr1 (by omega)) ?_
      refine j_topi (y := nI ((x / 12) % (sNr st))) (pk_rem (by omega) (hr1) (by omega)) ?_
      refine lv_istore (lv' := [(7, .int (nI ((x / 12) % (sNr st)))), (6, .int (nI ((x + k) % (sNl st)))), (0, .ref (h 0)), (1, .ref (g 0)), (2, .int (nI x)), (3, .int (nI 1)), (4, .int (nI cv)), (5, .int (nI k))]) hx hb dL_alike_320 hl (by decide) rfl (fun ls hl => ?_)
      have hl := lv_sub (l' := [(0, .ref (h 0)), (1, .ref (g 0)), (2, .int (nI x)), (3, .int (nI 1)), (4, .int (nI cv)), (5, .int (nI k)), (6, .int (nI ((x + k) % (sNl st)))), (7, .int (nI ((x / 12) % (sNr st))))]) hl [2, 3, 4, 5, 6, 7, 1, 0] rfl
      exact kn ((x + k) % (sNl st)) ((x / 12) % (sNr st)) u_316 jt H _ ls _ _ hk (Nat.mod_lt _ hl1) (Nat.mod_lt _ hr1) hP hD hS hl (by omega) (by omega)
set_option maxHeartbeats 4000000 in
set_option maxRecDepth 100000 in
theorem al_F  (l : Launch) (hl0 : l.stackTraces = false) (hRf : 22 ≤ R.frames) (hRl : 600 ≤ R.locals) (C : jC p s m meth c cL_alike 9 (some .boolean) RL wsL_alike D (jT aI aJ aZ) args A nm) (hXs : jXs A s s.heap) (u : TU st tt) (hi1 : i < sNl st) (hj1 : jj < sNr st) (hP : va_P D vwCl (HC aI aJ h st j ++ (HC aI aJ g tt jt)) H) (hD : va_D A (HC aI aJ h st j ++ (HC aI aJ g tt jt))) (hS : va_S A s.heap H locs) (hl : lv_has ls 9 [(0, .ref (h 0)), (1, .ref (g 0)), (2, .int (nI x)), (3, .int (nI 1)), (4, .int (nI cv)), (5, .int (nI k)), (6, .int (nI i)), (7, .int (nI jj))]) (hRc : cells + 4 ≤ R.cells) (hRs : slots + 24 ≤ R.slots) (kk : ∀ (j jt : Jk) (H : Heap) (locs : List Loc) (ls : Array Slot) (c1 s1 : Nat), va_P D vwCl (HC aI aJ h st j ++ (HC aI aJ g tt jt)) H → va_D A (HC aI aJ h st j ++ (HC aI aJ g tt jt)) → va_S A s.heap H locs → lv_has ls 9 [(0, .ref (h 0)), (1, .ref (g 0)), (2, .int (nI x)), (3, .int (nI 1)), (4, .int (nI cv)), (5, .int (nI k)), (6, .int (nI i)), (7, .int (nI jj)), (8, .int (nI 1))] → c1 ≤ cells + 4 → s1 ≤ slots + 24 → W p l e R s m args below meth c H locs c1 s1 Q (F0 m 357 ls [])) : W p l e R s m args below meth c H locs cells slots Q (F0 m 322 ls []) := by
  obtain ⟨hx, hb, hml, hown, hts, hK, hA, hlocks, hr, hn, hN⟩ := id C
  have hi := u.hs
  have hj := u.ht
  have hnl := u.hnl
  have hnr := u.hnr
  have hle : sN st ≤ sNl st := by rw [u.other.2.2.2.1]; exact sz_le _ _
  have hmL := u.hs.b12
  have hmR := u.hs.r12
  have htl : sNl tt ≤ 12 := u.ht.1
  have htr : sNr tt ≤ 12 := u.ht.2.1
  refine lv_aload_n hx hb dL_alike_322 rfl (lv_at hl 0 rfl) ?_
  refine lv_iload hx hb dL_alike_323 (lv_at hl 6 rfl) ?_
  refine lv_iload hx hb dL_alike_325 (lv_at hl 7 rfl) ?_
  refine j_calliM (vx_runSW (As := [.ref (h 0), .int (nI i), .int (nI jj)]) (rest := []) C.fix (c_L_has l hl0 D aI aJ aZ h st j (nI i) (nI jj) hi H.size) (vx_cwSW 3 hts gL_alike_L_has rfl rfl rfl (by decide +kernel) ⟨Nat.le_trans (m := 22) (Nat.le_of_ble_eq_true rfl) hRf, Nat.le_trans (m := 600) (Nat.le_of_ble_eq_true rfl) hRl⟩) (jxPreS hXs hA hS hN hK hP hD [0, 1, 2, 3, 4, 5, 6, 7, 8, 9, 10, 11, 12, 13, 14, 15, 16, 17, 18, 19, 20] rfl rfl (by decide)) rfl rfl hl.1 rfl (lv_room (Nat.le_of_ble_eq_true rfl)) dL_alike_327 ⟨by omega, by omega⟩) hA hP hD hS [0, 1, 2, 3, 4, 5, 6, 7, 8, 9, 10, 11, 12, 13, 14, 15, 16, 17, 18, 19, 20] [21, 22, 23, 24, 25, 26, 27, 28, 29, 30, 31, 32, 33, 34, 35, 36, 37, 38, 39, 40, 41] (wr := HC aI aJ g tt jt) rfl rfl (by decide) (by decide) (fun r_327 u_327 H locs q_327 hP hD hS => ?_)
  have hP := hP.sub (ws' := HC aI aJ h st u_327 ++ (HC aI aJ g tt jt)) [21, 22, 23, 24, 25, 26, 27, 28, 29, 30, 31, 32, 33, 34, 35, 36, 37, 38, 39, 40, 41, 0, 1, 2, 3, 4, 5, 6, 7, 8, 9, 10, 11, 12, 13, 14, 15, 16, 17, 18, 19, 20] rfl
  have hD := hD.sub (ws' := HC aI aJ h st u_327 ++ (HC aI aJ g tt jt)) [21, 22, 23, 24, 25, 26, 27, 28, 29, 30, 31, 32, 33, 34, 35, 36, 37, 38, 39, 40, 41, 0, 1, 2, 3, 4, 5, 6, 7, 8, 9, 10, 11, 12, 13, 14, 15, 16, 17, 18, 19, 20] (by decide) rfl
  have hP : va_P D vwCl (HC aI aJ h st u_327 ++ (HC aI aJ g tt jt)) H := hP
  have hD : va_D A (HC aI aJ h st u_327 ++ (HC aI aJ g tt jt)) := hD
  refine j_topi (y := nI (b2n (sE st i jj))) (ha_at (ix_of (by omega) hi1 rfl) (ix_of (by omega) hj1 rfl) q_327) ?_
  refine lv_iconst (v := nI 1) hx hb dL_alike_330 (by decide) ?_
  refine lv_icmp_ne (tgt := 350) hx hb dL_alike_331 (by decide) (fun c_331 => ?_) (fun c_331 => ?_)
  · clear c_331
    refine lv_iconst (v := nI 1) hx hb dL_alike_350 (by decide) ?_
    refine lv_goto (tgt := 355) hx hb dL_alike_351 (by decide) ?_
    refine lv_istore (lv' := [(8, .int (nI 1)), (0, .ref (h 0)), (1, .ref (g 0)), (2, .int (nI x)), (3, .int (nI 1)), (4, .int (nI cv)), (5, .int (nI k)), (6, .int (nI i)), (7, .int (nI jj))]) hx hb dL_alike_355 hl (by decide) rfl (fun ls hl => ?_)
    have hl := lv_sub (l' := [(0, .ref (h 0)), (1, .ref (g 0)), (2, .int (nI x)), (3, .int (nI 1)), (4, .int (nI cv)), (5, .int (nI k)), (6, .int (nI i)), (7, .int (nI jj)), (8, .int (nI 1))]) hl [1, 2, 3, 4, 5, 6, 7, 8, 0] rfl
    exact kk u_327 jt H _ ls _ _  hP hD hS hl (by omega) (by omega)
  · have hE := b2n_1 c_331
    refine lv_aload_n hx hb dL_alike_334 rfl (lv_at hl 0 rfl) ?_
    refine lv_iload hx hb dL_alike_335 (lv_at hl 6 rfl) ?_
    refine j_calliM (vx_runSW (As := [.ref (h 0), .int (nI i)]) (rest := []) C.fix (c_L_leftCover l hl0 D aI aJ aZ h st u_327 (nI i) hi H.size) (vx_cwSW 2 hts gL_alike_L_leftCover rfl rfl rfl (by decide +kernel) ⟨Nat.le_trans (m := 22) (Nat.le_of_ble_eq_true rfl) hRf, Nat.le_trans (m := 600) (Nat.le_of_ble_eq_true rfl) hRl⟩) (jxPreS hXs hA hS hN hK hP hD [0, 1, 2, 3, 4, 5, 6, 7, 8, 9, 10, 11, 12, 13, 14, 15, 16, 17, 18, 19, 20] rfl rfl (by decide)) rfl rfl hl.1 rfl (lv_room (Nat.le_of_ble_eq_true rfl)) dL_alike_337 ⟨by omega, by omega⟩) hA hP hD hS [0, 1, 2, 3, 4, 5, 6, 7, 8, 9, 10, 11, 12, 13, 14, 15, 16, 17, 18, 19, 20] [21, 22, 23, 24, 25, 26, 27, 28, 29, 30, 31, 32, 33, 34, 35, 36, 37, 38, 39, 40, 41] (wr := HC aI aJ g tt jt) rfl rfl (by decide) (by decide) (fun r_337 u_337 H locs q_337 hP hD hS => ?_)
    have hP := hP.sub (ws' := HC aI aJ h st u_337 ++ (HC aI aJ g tt jt)) [21, 22, 23, 24, 25, 26, 27, 28, 29, 30, 31, 32, 33, 34, 35, 36, 37, 38, 39, 40, 41, 0, 1, 2, 3, 4, 5, 6, 7, 8, 9, 10, 11, 12, 13, 14, 15, 16, 17, 18, 19, 20] rfl
    have hD := hD.sub (ws' := HC aI aJ h st u_337 ++ (HC aI aJ g tt jt)) [21, 22, 23, 24, 25, 26, 27, 28, 29, 30, 31, 32, 33, 34, 35, 36, 37, 38, 39, 40, 41, 0, 1, 2, 3, 4, 5, 6, 7, 8, 9, 10, 11, 12, 13, 14, 15, 16, 17, 18, 19, 20] (by decide) rfl
    have hP : va_P D vwCl (HC aI aJ h st u_337 ++ (HC aI aJ g tt jt)) H := hP
    have hD : va_D A (HC aI aJ h st u_337 ++ (HC aI aJ g tt jt)) := hD
    refine j_topi (y := nI (b2n (!LHl (sE st) (sL st) (sR st) (sNl st) i))) (lc_at (ix_of (by omega) hi1 rfl) q_337) ?_
    refine lv_aload_n hx hb dL_alike_340 rfl (lv_at hl 0 rfl) ?_
    refine lv_iload hx hb dL_alike_341 (lv_at hl 7 rfl) ?_
    refine j_calliM (vx_runSW (As := [.ref (h 0), .int (nI jj)]) (rest := [.int (nI (b2n (!LHl (sE st) (sL st) (sR st) (sNl st) i)))]) C.fix (c_L_rightCover l hl0 D aI aJ aZ h st u_337 (nI jj) hi H.size) (vx_cwSW 2 hts gL_alike_L_rightCover rfl rfl rfl (by decide +kernel) ⟨Nat.le_trans (m := 22) (Nat.le_of_ble_eq_true rfl) hRf, Nat.le_trans (m := 600) (Nat.le_of_ble_eq_true rfl) hRl⟩) (jxPreS hXs hA hS hN hK hP hD [0, 1, 2, 3, 4, 5, 6, 7, 8, 9, 10, 11, 12, 13, 14, 15, 16, 17, 18, 19, 20] rfl rfl (by decide)) rfl rfl hl.1 rfl (lv_room (Nat.le_of_ble_eq_true rfl)) dL_alike_343 ⟨by omega, by omega⟩) hA hP hD hS [0, 1, 2, 3, 4, 5, 6, 7, 8, 9, 10, 11, 12, 13, 14, 15, 16, 17, 18, 19, 20] [21, 22, 23, 24, 25, 26, 27, 28, 29, 30, 31, 32, 33, 34, 35, 36, 37, 38, 39, 40, 41] (wr := HC aI aJ g tt jt) rfl rfl (by decide) (by decide) (fun r_343 u_343 H locs q_343 hP hD hS => ?_)
    have hP := hP.sub (ws' := HC aI aJ h st u_343 ++ (HC aI aJ g tt jt)) [21, 22, 23, 24, 25, 26, 27, 28, 29, 30, 31, 32, 33, 34, 35, 36, 37, 38, 39, 40, 41, 0, 1, 2, 3, 4, 5, 6, 7, 8, 9, 10, 11, 12, 13, 14, 15, 16, 17, 18, 19, 20] rfl
    have hD := hD.sub (ws' := HC aI aJ h st u_343 ++ (HC aI aJ g tt jt)) [21, 22, 23, 24, 25, 26, 27, 28, 29, 30, 31, 32, 33, 34, 35, 36, 37, 38, 39, 40, 41, 0, 1, 2, 3, 4, 5, 6, 7, 8, 9, 10, 11, 12, 13, 14, 15, 16, 17, 18, 19, 20] (by decide) rfl
    have hP : va_P D vwCl (HC aI aJ h st u_343 ++ (HC aI aJ g tt jt)) H := hP
    have hD : va_D A (HC aI aJ h st u_343 ++ (HC aI aJ g tt jt)) := hD
    refine j_topi (y := nI (b2n (LHr (sE st) (sL st) (sR st) (sNl st) jj))) (rc_at (ix_of (by omega) hj1 rfl) q_343) ?_
    refine lv_iadd hx hb dL_alike_346 ?_
    refine j_topi (y := nI ((b2n (!LHl (sE st) (sL st) (sR st) (sNl st) i)) + (b2n (LHr (sE st) (sL st) (sR st) (sNl st) jj)))) (nI_add _ _) ?_
    refine lv_if_le (tgt := 354) hx hb dL_alike_347 (by decide) (fun c_347 => ?_) (fun c_347 => ?_)
    · exact absurd c_347 (nI_nle (u.cov hE) (by have a := b2n_le (!LHl (sE st) (sL st) (sR st) (sNl st) i); have b := b2n_le (LHr (sE st) (sL st) (sR st) (sNl st) jj); omega))
    · clear c_347
      refine lv_iconst (v := nI 1) hx hb dL_alike_350 (by decide) ?_
      refine lv_goto (tgt := 355) hx hb dL_alike_351 (by decide) ?_
      refine lv_istore (lv' := [(8, .int (nI 1)), (0, .ref (h 0)), (1, .ref (g 0)), (2, .int (nI x)), (3, .int (nI 1)), (4, .int (nI cv)), (5, .int (nI k)), (6, .int (nI i)), (7, .int (nI jj))]) hx hb dL_alike_355 hl (by decide) rfl (fun ls hl => ?_)
      have hl := lv_sub (l' := [(0, .ref (h 0)), (1, .ref (g 0)), (2, .int (nI x)), (3, .int (nI 1)), (4, .int (nI cv)), (5, .int (nI k)), (6, .int (nI i)), (7, .int (nI jj)), (8, .int (nI 1))]) hl [1, 2, 3, 4, 5, 6, 7, 8, 0] rfl
      exact kk u_343 jt H _ ls _ _  hP hD hS hl (by omega) (by omega)
set_option maxHeartbeats 4000000 in
set_option maxRecDepth 100000 in
theorem al_G  (l : Launch) (hl0 : l.stackTraces = false) (hRf : 22 ≤ R.frames) (hRl : 600 ≤ R.locals) (C : jC p s m meth c cL_alike 9 (some .boolean) RL wsL_alike D (jT aI aJ aZ) args A nm) (hXs : jXs A s s.heap) (u : TU st tt) (hi1 : i < sNl st) (hj1 : jj < sNr st) (hP : va_P D vwCl (HC aI aJ h st j ++ (HC aI aJ g tt jt)) H) (hD : va_D A (HC aI aJ h st j ++ (HC aI aJ g tt jt))) (hS : va_S A s.heap H locs) (hl : lv_has ls 9 [(0, .ref (h 0)), (1, .ref (g 0)), (2, .int (nI x)), (3, .int (nI 1)), (4, .int (nI cv)), (5, .int (nI k)), (6, .int (nI i)), (7, .int (nI jj)), (8, .int (nI 1))]) (hRc : cells + 26 ≤ R.cells) (hRs : slots + 156 ≤ R.slots) (kk : ∀ (j jt : Jk) (H : Heap) (locs : List Loc) (ls : Array Slot) (c1 s1 : Nat), va_P D vwCl (HC aI aJ h st j ++ (HC aI aJ g tt jt)) H → va_D A (HC aI aJ h st j ++ (HC aI aJ g tt jt)) → va_S A s.heap H locs → lv_has ls 9 [(0, .ref (h 0)), (1, .ref (g 0)), (2, .int (nI x)), (3, .int (nI 1)), (4, .int (nI cv)), (5, .int (nI k)), (6, .int (nI i)), (7, .int (nI jj))] → c1 ≤ cells + 26 → s1 ≤ slots + 156 → W p l e R s m args below meth c H locs c1 s1 Q (F0 m 454 ls [])) : W p l e R s m args below meth c H locs cells slots Q (F0 m 357 ls []) := by
  obtain ⟨hx, hb, hml, hown, hts, hK, hA, hlocks, hr, hn, hN⟩ := id C
  have hi := u.hs
  have hj := u.ht
  have hnl := u.hnl
  have hnr := u.hnr
  have hle : sN st ≤ sNl st := by rw [u.other.2.2.2.1]; exact sz_le _ _
  have hmL := u.hs.b12
  have hmR := u.hs.r12
  have htl : sNl tt ≤ 12 := u.ht.1
  have htr : sNr tt ≤ 12 := u.ht.2.1
  refine lv_iload hx hb dL_alike_357 (lv_at hl 8 rfl) ?_
  refine lv_if_eq (tgt := 481) hx hb dL_alike_359 (by decide) (fun c_359 => ?_) (fun c_359 => ?_)
  · exact absurd c_359 (by decide)
  · clear c_359
    refine lv_aload_n hx hb dL_alike_362 rfl (lv_at hl 1 rfl) ?_
    refine lv_iload hx hb dL_alike_363 (lv_at hl 7 rfl) ?_
    refine lv_iload hx hb dL_alike_365 (lv_at hl 6 rfl) ?_
    refine j_calliM (vx_runSW (As := [.ref (g 0), .int (nI jj), .int (nI i)]) (rest := []) C.fix (c_L_has l hl0 D aI aJ aZ g tt jt (nI jj) (nI i) hj H.size) (vx_cwSW 3 hts gL_alike_L_has rfl rfl rfl (by decide +kernel) ⟨Nat.le_trans (m := 22) (Nat.le_of_ble_eq_true rfl) hRf, Nat.le_trans (m := 600) (Nat.le_of_ble_eq_true rfl) hRl⟩) (jxPreS hXs hA hS hN hK hP hD [21, 22, 23, 24, 25, 26, 27, 28, 29, 30, 31, 32, 33, 34, 35, 36, 37, 38, 39, 40, 41] rfl rfl (by decide)) rfl rfl hl.1 rfl (lv_room (Nat.le_of_ble_eq_true rfl)) dL_alike_367 ⟨by omega, by omega⟩) hA hP hD hS [21, 22, 23, 24, 25, 26, 27, 28, 29, 30, 31, 32, 33, 34, 35, 36, 37, 38, 39, 40, 41] [0, 1, 2, 3, 4, 5, 6, 7, 8, 9, 10, 11, 12, 13, 14, 15, 16, 17, 18, 19, 20] (wr := HC aI aJ h st j) rfl rfl (by decide) (by decide) (fun r_367 u_367 H locs q_367 hP hD hS => ?_)
    have hP : va_P D vwCl (HC aI aJ h st j ++ (HC aI aJ g tt u_367)) H := hP
    have hD : va_D A (HC aI aJ h st j ++ (HC aI aJ g tt u_367)) := hD
    refine j_topi (y := nI (b2n (sE st i jj))) ((ha_at (ix_of (by omega) (by rw [u.nl]; exact hj1) rfl) (ix_of (by omega) (by rw [u.nr]; exact hi1) rfl) q_367).trans (congrArg (fun b => nI (b2n b)) (u.has i jj))) ?_
    refine lv_aload_n hx hb dL_alike_370 rfl (lv_at hl 0 rfl) ?_
    refine lv_iload hx hb dL_alike_371 (lv_at hl 6 rfl) ?_
    refine lv_iload hx hb dL_alike_373 (lv_at hl 7 rfl) ?_
    refine j_calliM (vx_runSW (As := [.ref (h 0), .int (nI i), .int (nI jj)]) (rest := [.int (nI (b2n (sE st i jj)))]) C.fix (c_L_has l hl0 D aI aJ aZ h st j (nI i) (nI jj) hi H.size) (vx_cwSW 3 hts gL_alike_L_has rfl rfl rfl (by decide +kernel) ⟨Nat.le_trans (m := 22) (Nat.le_of_ble_eq_true rfl) hRf, Nat.le_trans (m := 600) (Nat.le_of_ble_eq_true rfl) hRl⟩) (jxPreS hXs hA hS hN hK hP hD [0, 1, 2, 3, 4, 5, 6, 7, 8, 9, 10, 11, 12, 13, 14, 15, 16, 17, 18, 19, 20] rfl rfl (by decide)) rfl rfl hl.1 rfl (lv_room (Nat.le_of_ble_eq_true rfl)) dL_alike_375 ⟨by omega, by omega⟩) hA hP hD hS [0, 1, 2, 3, 4, 5, 6, 7, 8, 9, 10, 11, 12, 13, 14, 15, 16, 17, 18, 19, 20] [21, 22, 23, 24, 25, 26, 27, 28, 29, 30, 31, 32, 33, 34, 35, 36, 37, 38, 39, 40, 41] (wr := HC aI aJ g tt u_367) rfl rfl (by decide) (by decide) (fun r_375 u_375 H locs q_375 hP hD hS => ?_)
    have hP := hP.sub (ws' := HC aI aJ h st u_375 ++ (HC aI aJ g tt u_367)) [21, 22, 23, 24, 25, 26, 27, 28, 29, 30, 31, 32, 33, 34, 35, 36, 37, 38, 39, 40, 41, 0, 1, 2, 3, 4, 5, 6, 7, 8, 9, 10, 11, 12, 13, 14, 15, 16, 17, 18, 19, 20] rfl
    have hD := hD.sub (ws' := HC aI aJ h st u_375 ++ (HC aI aJ g tt u_367)) [21, 22, 23, 24, 25, 26, 27, 28, 29, 30, 31, 32, 33, 34, 35, 36, 37, 38, 39, 40, 41, 0, 1, 2, 3, 4, 5, 6, 7, 8, 9, 10, 11, 12, 13, 14, 15, 16, 17, 18, 19, 20] (by decide) rfl
    have hP : va_P D vwCl (HC aI aJ h st u_375 ++ (HC aI aJ g tt u_367)) H := hP
    have hD : va_D A (HC aI aJ h st u_375 ++ (HC aI aJ g tt u_367)) := hD
    refine j_topi (y := nI (b2n (sE st i jj))) (ha_at (ix_of (by omega) hi1 rfl) (ix_of (by omega) hj1 rfl) q_375) ?_
    refine lv_icmp_ne (tgt := 481) hx hb dL_alike_378 (by decide) (fun c_378 => ?_) (fun c_378 => ?_)
    · exact absurd rfl c_378
    · clear c_378
      refine lv_aload_n hx hb dL_alike_381 rfl (lv_at hl 1 rfl) ?_
      refine lv_iload hx hb dL_alike_382 (lv_at hl 7 rfl) ?_
      refine lv_iload hx hb dL_alike_384 (lv_at hl 6 rfl) ?_
      refine j_calliM (vx_runSW (As := [.ref (g 0), .int (nI jj), .int (nI i)]) (rest := []) C.fix (c_L_inSome l hl0 D aI aJ aZ g tt u_367 (nI jj) (nI i) hj H.size) (vx_cwSW 3 hts gL_alike_L_inSome rfl rfl rfl (by decide +kernel) ⟨Nat.le_trans (m := 22) (Nat.le_of_ble_eq_true rfl) hRf, Nat.le_trans (m := 600) (Nat.le_of_ble_eq_true rfl) hRl⟩) (jxPreS hXs hA hS hN hK hP hD [21, 22, 23, 24, 25, 26, 27, 28, 29, 30, 31, 32, 33, 34, 35, 36, 37, 38, 39, 40, 41] rfl rfl (by decide)) rfl rfl hl.1 rfl (lv_room (Nat.le_of_ble_eq_true rfl)) dL_alike_386 ⟨by omega, by omega⟩) hA hP hD hS [21, 22, 23, 24, 25, 26, 27, 28, 29, 30, 31, 32, 33, 34, 35, 36, 37, 38, 39, 40, 41] [0, 1, 2, 3, 4, 5, 6, 7, 8, 9, 10, 11, 12, 13, 14, 15, 16, 17, 18, 19, 20] (wr := HC aI aJ h st u_375) rfl rfl (by decide) (by decide) (fun r_386 u_386 H locs q_386 hP hD hS => ?_)
      have hP : va_P D vwCl (HC aI aJ h st u_375 ++ (HC aI aJ g tt u_386)) H := hP
      have hD : va_D A (HC aI aJ h st u_375 ++ (HC aI aJ g tt u_386)) := hD
      refine j_topi (y := if sE st i jj = true then nI (b2n (iSm (sE st) (sL st) (sR st) (sNl st) (sNr st) i jj)) else (-9999004)) ((is_at (ix_of (by omega) (by rw [u.nl]; exact hj1) rfl) (ix_of (by omega) (by rw [u.nr]; exact hi1) rfl) q_386).trans (u.some i jj)) ?_
      refine lv_aload_n hx hb dL_alike_389 rfl (lv_at hl 0 rfl) ?_
      refine lv_iload hx hb dL_alike_390 (lv_at hl 6 rfl) ?_
      refine lv_iload hx hb dL_alike_392 (lv_at hl 7 rfl) ?_
      refine j_calliM (vx_runSW (As := [.ref (h 0), .int (nI i), .int (nI jj)]) (rest := [.int (if sE st i jj = true then nI (b2n (iSm (sE st) (sL st) (sR st) (sNl st) (sNr st) i jj)) else (-9999004))]) C.fix (c_L_inSome l hl0 D aI aJ aZ h st u_375 (nI i) (nI jj) hi H.size) (vx_cwSW 3 hts gL_alike_L_inSome rfl rfl rfl (by decide +kernel) ⟨Nat.le_trans (m := 22) (Nat.le_of_ble_eq_true rfl) hRf, Nat.le_trans (m := 600) (Nat.le_of_ble_eq_true rfl) hRl⟩) (jxPreS hXs hA hS hN hK hP hD [0, 1, 2, 3, 4, 5, 6, 7, 8, 9, 10, 11, 12, 13, 14, 15, 16, 17, 18, 19, 20] rfl rfl (by decide)) rfl rfl hl.1 rfl (lv_room (Nat.le_of_ble_eq_true rfl)) dL_alike_394 ⟨by omega, by omega⟩) hA hP hD hS [0, 1, 2, 3, 4, 5, 6, 7, 8, 9, 10, 11, 12, 13, 14, 15, 16, 17, 18, 19, 20] [21, 22, 23, 24, 25, 26, 27, 28, 29, 30, 31, 32, 33, 34, 35, 36, 37, 38, 39, 40, 41] (wr := HC aI aJ g tt u_386) rfl rfl (by decide) (by decide) (fun r_394 u_394 H locs q_394 hP hD hS => ?_)
      have hP := hP.sub (ws' := HC aI aJ h st u_394 ++ (HC aI aJ g tt u_386)) [21, 22, 23, 24, 25, 26, 27, 28, 29, 30, 31, 32, 33, 34, 35, 36, 37, 38, 39, 40, 41, 0, 1, 2, 3, 4, 5, 6, 7, 8, 9, 10, 11, 12, 13, 14, 15, 16, 17, 18, 19, 20] rfl
      have hD := hD.sub (ws' := HC aI aJ h st u_394 ++ (HC aI aJ g tt u_386)) [21, 22, 23, 24, 25, 26, 27, 28, 29, 30, 31, 32, 33, 34, 35, 36, 37, 38, 39, 40, 41, 0, 1, 2, 3, 4, 5, 6, 7, 8, 9, 10, 11, 12, 13, 14, 15, 16, 17, 18, 19, 20] (by decide) rfl
      have hP : va_P D vwCl (HC aI aJ h st u_394 ++ (HC aI aJ g tt u_386)) H := hP
      have hD : va_D A (HC aI aJ h st u_394 ++ (HC aI aJ g tt u_386)) := hD
      refine j_topi (y := if sE st i jj = true then nI (b2n (iSm (sE st) (sL st) (sR st) (sNl st) (sNr st) i jj)) else (-9999004)) (is_at (ix_of (by omega) hi1 rfl) (ix_of (by omega) hj1 rfl) q_394) ?_
      refine lv_icmp_ne (tgt := 481) hx hb dL_alike_397 (by decide) (fun c_397 => ?_) (fun c_397 => ?_)
      · exact absurd rfl c_397
      · clear c_397
        refine lv_aload_n hx hb dL_alike_400 rfl (lv_at hl 1 rfl) ?_
        refine lv_iload hx hb dL_alike_401 (lv_at hl 7 rfl) ?_
        refine lv_iload hx hb dL_alike_403 (lv_at hl 6 rfl) ?_
        refine j_calliM (vx_runSW (As := [.ref (g 0), .int (nI jj), .int (nI i)]) (rest := []) C.fix (c_L_inAll l hl0 D aI aJ aZ g tt u_386 (nI jj) (nI i) hj H.size) (vx_cwSW 3 hts gL_alike_L_inAll rfl rfl rfl (by decide +kernel) ⟨Nat.le_trans (m := 22) (Nat.le_of_ble_eq_true rfl) hRf, Nat.le_trans (m := 600) (Nat.le_of_ble_eq_true rfl) hRl⟩) (jxPreS hXs hA hS hN hK hP hD [21, 22, 23, 24, 25, 26, 27, 28, 29, 30, 31, 32, 33, 34, 35, 36, 37, 38, 39, 40, 41] rfl rfl (by decide)) rfl rfl hl.1 rfl (lv_room (Nat.le_of_ble_eq_true rfl)) dL_alike_405 ⟨by omega, by omega⟩) hA hP hD hS [21, 22, 23, 24, 25, 26, 27, 28, 29, 30, 31, 32, 33, 34, 35, 36, 37, 38, 39, 40, 41] [0, 1, 2, 3, 4, 5, 6, 7, 8, 9, 10, 11, 12, 13, 14, 15, 16, 17, 18, 19, 20] (wr := HC aI aJ h st u_394) rfl rfl (by decide) (by decide) (fun r_405 u_405 H locs q_405 hP hD hS => ?_)
        have hP : va_P D vwCl (HC aI aJ h st u_394 ++ (HC aI aJ g tt u_405)) H := hP
        have hD : va_D A (HC aI aJ h st u_394 ++ (HC aI aJ g tt u_405)) := hD
        refine j_topi (y := if sE st i jj = true then nI (b2n (iAl (sE st) (sL st) (sR st) (sNl st) (sNr st) i jj)) else (-9999004)) ((ia_at (ix_of (by omega) (by rw [u.nl]; exact hj1) rfl) (ix_of (by omega) (by rw [u.nr]; exact hi1) rfl) q_405).trans (u.all i jj)) ?_
        refine lv_aload_n hx hb dL_alike_408 rfl (lv_at hl 0 rfl) ?_
        refine lv_iload hx hb dL_alike_409 (lv_at hl 6 rfl) ?_
        refine lv_iload hx hb dL_alike_411 (lv_at hl 7 rfl) ?_
        refine j_calliM (vx_runSW (As := [.ref (h 0), .int (nI i), .int (nI jj)]) (rest := [.int (if sE st i jj = true then nI (b2n (iAl (sE st) (sL st) (sR st) (sNl st) (sNr st) i jj)) else (-9999004))]) C.fix (c_L_inAll l hl0 D aI aJ aZ h st u_394 (nI i) (nI jj) hi H.size) (vx_cwSW 3 hts gL_alike_L_inAll rfl rfl rfl (by decide +kernel) ⟨Nat.le_trans (m := 22) (Nat.le_of_ble_eq_true rfl) hRf, Nat.le_trans (m := 600) (Nat.le_of_ble_eq_true rfl) hRl⟩) (jxPreS hXs hA hS hN hK hP hD [0, 1, 2, 3, 4, 5, 6, 7, 8, 9, 10, 11, 12, 13, 14, 15, 16, 17, 18, 19, 20] rfl rfl (by decide)) rfl rfl hl.1 rfl (lv_room (Nat.le_of_ble_eq_true rfl)) dL_alike_413 ⟨by omega, by omega⟩) hA hP hD hS [0, 1, 2, 3, 4, 5, 6, 7, 8, 9, 10, 11, 12, 13, 14, 15, 16, 17, 18, 19, 20] [21, 22, 23, 24, 25, 26, 27, 28, 29, 30, 31, 32, 33, 34, 35, 36, 37, 38, 39, 40, 41] (wr := HC aI aJ g tt u_405) rfl rfl (by decide) (by decide) (fun r_413 u_413 H locs q_413 hP hD hS => ?_)
        have hP := hP.sub (ws' := HC aI aJ h st u_413 ++ (HC aI aJ g tt u_405)) [21, 22, 23, 24, 25, 26, 27, 28, 29, 30, 31, 32, 33, 34, 35, 36, 37, 38, 39, 40, 41, 0, 1, 2, 3, 4, 5, 6, 7, 8, 9, 10, 11, 12, 13, 14, 15, 16, 17, 18, 19, 20] rfl
        have hD := hD.sub (ws' := HC aI aJ h st u_413 ++ (HC aI aJ g tt u_405)) [21, 22, 23, 24, 25, 26, 27, 28, 29, 30, 31, 32, 33, 34, 35, 36, 37, 38, 39, 40, 41, 0, 1, 2, 3, 4, 5, 6, 7, 8, 9, 10, 11, 12, 13, 14, 15, 16, 17, 18, 19, 20] (by decide) rfl
        have hP : va_P D vwCl (HC aI aJ h st u_413 ++ (HC aI aJ g tt u_405)) H := hP
        have hD : va_D A (HC aI aJ h st u_413 ++ (HC aI aJ g tt u_405)) := hD
        refine j_topi (y := if sE st i jj = true then nI (b2n (iAl (sE st) (sL st) (sR st) (sNl st) (sNr st) i jj)) else (-9999004)) (ia_at (ix_of (by omega) hi1 rfl) (ix_of (by omega) hj1 rfl) q_413) ?_
        refine lv_icmp_ne (tgt := 481) hx hb dL_alike_416 (by decide) (fun c_416 => ?_) (fun c_416 => ?_)
        · exact absurd rfl c_416
        · clear c_416
          refine lv_aload_n hx hb dL_alike_419 rfl (lv_at hl 0 rfl) ?_
          refine lv_iload hx hb dL_alike_420 (lv_at hl 6 rfl) ?_
          refine lv_iload hx hb dL_alike_422 (lv_at hl 7 rfl) ?_
          refine j_calliM (vx_runSW (As := [.ref (h 0), .int (nI i), .int (nI jj)]) (rest := []) C.fix (c_L_inAll l hl0 D aI aJ aZ h st u_413 (nI i) (nI jj) hi H.size) (vx_cwSW 3 hts gL_alike_L_inAll rfl rfl rfl (by decide +kernel) ⟨Nat.le_trans (m := 22) (Nat.le_of_ble_eq_true rfl) hRf, Nat.le_trans (m := 600) (Nat.le_of_ble_eq_true rfl) hRl⟩) (jxPreS hXs hA hS hN hK hP hD [0, 1, 2, 3, 4, 5, 6, 7, 8, 9, 10, 11, 12, 13, 14, 15, 16, 17, 18, 19, 20] rfl rfl (by decide)) rfl rfl hl.1 rfl (lv_room (Nat.le_of_ble_eq_true rfl)) dL_alike_424 ⟨by omega, by omega⟩) hA hP hD hS [0, 1, 2, 3, 4, 5, 6, 7, 8, 9, 10, 11, 12, 13, 14, 15, 16, 17, 18, 19, 20] [21, 22, 23, 24, 25, 26, 27, 28, 29, 30, 31, 32, 33, 34, 35, 36, 37, 38, 39, 40, 41] (wr := HC aI aJ g tt u_405) rfl rfl (by decide) (by decide) (fun r_424 u_424 H locs q_424 hP hD hS => ?_)
          have hP := hP.sub (ws' := HC aI aJ h st u_424 ++ (HC aI aJ g tt u_405)) [21, 22, 23, 24, 25, 26, 27, 28, 29, 30, 31, 32, 33, 34, 35, 36, 37, 38, 39, 40, 41, 0, 1, 2, 3, 4, 5, 6, 7, 8, 9, 10, 11, 12, 13, 14, 15, 16, 17, 18, 19, 20] rfl
          have hD := hD.sub (ws' := HC aI aJ h st u_424 ++ (HC aI aJ g tt u_405)) [21, 22, 23, 24, 25, 26, 27, 28, 29, 30, 31, 32, 33, 34, 35, 36, 37, 38, 39, 40, 41, 0, 1, 2, 3, 4, 5, 6, 7, 8, 9, 10, 11, 12, 13, 14, 15, 16, 17, 18, 19, 20] (by decide) rfl
          have hP : va_P D vwCl (HC aI aJ h st u_424 ++ (HC aI aJ g tt u_405)) H := hP
          have hD : va_D A (HC aI aJ h st u_424 ++ (HC aI aJ g tt u_405)) := hD
          refine j_topi (y := if sE st i jj = true then nI (b2n (iAl (sE st) (sL st) (sR st) (sNl st) (sNr st) i jj)) else (-9999004)) (ia_at (ix_of (by omega) hi1 rfl) (ix_of (by omega) hj1 rfl) q_424) ?_
          refine lv_iconst (v := nI 1) hx hb dL_alike_427 (by decide) ?_
          refine lv_icmp_ne (tgt := 454) hx hb dL_alike_428 (by decide) (fun c_428 => ?_) (fun c_428 => ?_)
          · clear c_428
            have hl := lv_sub (l' := [(0, .ref (h 0)), (1, .ref (g 0)), (2, .int (nI x)), (3, .int (nI 1)), (4, .int (nI cv)), (5, .int (nI k)), (6, .int (nI i)), (7, .int (nI jj))]) hl [0, 1, 2, 3, 4, 5, 6, 7] rfl
            exact kk u_424 u_405 H _ ls _ _  hP hD hS hl (by omega) (by omega)
          · obtain ⟨hE, hal⟩ := ite_1 c_428
            have hpr := iAl_pair hal
            refine lv_aload_n hx hb dL_alike_431 rfl (lv_at hl 0 rfl) ?_
            refine lv_iload hx hb dL_alike_432 (lv_at hl 6 rfl) ?_
            refine lv_iload hx hb dL_alike_434 (lv_at hl 7 rfl) ?_
            refine j_calliM (vx_runSW (As := [.ref (h 0), .int (nI i), .int (nI jj)]) (rest := []) C.fix (c_L_inSome l hl0 D aI aJ aZ h st u_424 (nI i) (nI jj) hi H.size) (vx_cwSW 3 hts gL_alike_L_inSome rfl rfl rfl (by decide +kernel) ⟨Nat.le_trans (m := 22) (Nat.le_of_ble_eq_true rfl) hRf, Nat.le_trans (m := 600) (Nat.le_of_ble_eq_true rfl) hRl⟩) (jxPreS hXs hA hS hN hK hP hD [0, 1, 2, 3, 4, 5, 6, 7, 8, 9, 10, 11, 12, 13, 14, 15, 16, 17, 18, 19, 20] rfl rfl (by decide)) rfl rfl hl.1 rfl (lv_room (Nat.le_of_ble_eq_true rfl)) dL_alike_436 ⟨by omega, by omega⟩) hA hP hD hS [0, 1, 2, 3, 4, 5, 6, 7, 8, 9, 10, 11, 12, 13, 14, 15, 16, 17, 18, 19, 20] [21, 22, 23, 24, 25, 26, 27, 28, 29, 30, 31, 32, 33, 34, 35, 36, 37, 38, 39, 40, 41] (wr := HC aI aJ g tt u_405) rfl rfl (by decide) (by decide) (fun r_436 u_436 H locs q_436 hP hD hS => ?_)
            have hP := hP.sub (ws' := HC aI aJ h st u_436 ++ (HC aI aJ g tt u_405)) [21, 22, 23, 24, 25, 26, 27, 28, 29, 30, 31, 32, 33, 34, 35, 36, 37, 38, 39, 40, 41, 0, 1, 2, 3, 4, 5, 6, 7, 8, 9, 10, 11, 12, 13, 14, 15, 16, 17, 18, 19, 20] rfl
            have hD := hD.sub (ws' := HC aI aJ h st u_436 ++ (HC aI aJ g tt u_405)) [21, 22, 23, 24, 25, 26, 27, 28, 29, 30, 31, 32, 33, 34, 35, 36, 37, 38, 39, 40, 41, 0, 1, 2, 3, 4, 5, 6, 7, 8, 9, 10, 11, 12, 13, 14, 15, 16, 17, 18, 19, 20] (by decide) rfl
            have hP : va_P D vwCl (HC aI aJ h st u_436 ++ (HC aI aJ g tt u_405)) H := hP
            have hD : va_D A (HC aI aJ h st u_436 ++ (HC aI aJ g tt u_405)) := hD
            refine j_topi (y := nI 1) ((is_at (ix_of (by omega) hi1 rfl) (ix_of (by omega) hj1 rfl) q_436).trans (sm_1 hi hpr)) ?_
            refine lv_iconst (v := nI 1) hx hb dL_alike_439 (by decide) ?_
            refine lv_icmp_ne (tgt := 481) hx hb dL_alike_440 (by decide) (fun c_440 => ?_) (fun c_440 => ?_)
            · exact absurd rfl c_440
            · clear c_440
              refine lv_aload_n hx hb dL_alike_443 rfl (lv_at hl 0 rfl) ?_
              refine lv_iload hx hb dL_alike_444 (lv_at hl 6 rfl) ?_
              refine j_calliM (vx_runSW (As := [.ref (h 0), .int (nI i)]) (rest := []) C.fix (c_L_ofLeft l hl0 D aI aJ aZ h st u_436 (nI i) hi H.size) (vx_cwSW 2 hts gL_alike_L_ofLeft rfl rfl rfl (by decide +kernel) ⟨Nat.le_trans (m := 22) (Nat.le_of_ble_eq_true rfl) hRf, Nat.le_trans (m := 600) (Nat.le_of_ble_eq_true rfl) hRl⟩) (jxPreS hXs hA hS hN hK hP hD [0, 1, 2, 3, 4, 5, 6, 7, 8, 9, 10, 11, 12, 13, 14, 15, 16, 17, 18, 19, 20] rfl rfl (by decide)) rfl rfl hl.1 rfl (lv_room (Nat.le_of_ble_eq_true rfl)) dL_alike_446 ⟨by omega, by omega⟩) hA hP hD hS [0, 1, 2, 3, 4, 5, 6, 7, 8, 9, 10, 11, 12, 13, 14, 15, 16, 17, 18, 19, 20] [21, 22, 23, 24, 25, 26, 27, 28, 29, 30, 31, 32, 33, 34, 35, 36, 37, 38, 39, 40, 41] (wr := HC aI aJ g tt u_405) rfl rfl (by decide) (by decide) (fun r_446 u_446 H locs q_446 hP hD hS => ?_)
              have hP := hP.sub (ws' := HC aI aJ h st u_446 ++ (HC aI aJ g tt u_405)) [21, 22, 23, 24, 25, 26, 27, 28, 29, 30, 31, 32, 33, 34, 35, 36, 37, 38, 39, 40, 41, 0, 1, 2, 3, 4, 5, 6, 7, 8, 9, 10, 11, 12, 13, 14, 15, 16, 17, 18, 19, 20] rfl
              have hD := hD.sub (ws' := HC aI aJ h st u_446 ++ (HC aI aJ g tt u_405)) [21, 22, 23, 24, 25, 26, 27, 28, 29, 30, 31, 32, 33, 34, 35, 36, 37, 38, 39, 40, 41, 0, 1, 2, 3, 4, 5, 6, 7, 8, 9, 10, 11, 12, 13, 14, 15, 16, 17, 18, 19, 20] (by decide) rfl
              have hP : va_P D vwCl (HC aI aJ h st u_446 ++ (HC aI aJ g tt u_405)) H := hP
              have hD : va_D A (HC aI aJ h st u_446 ++ (HC aI aJ g tt u_405)) := hD
              refine j_topi (y := nI jj) ((ol_at (ix_of (by omega) hi1 rfl) q_446).trans (congrArg pv hpr)) ?_
              refine lv_iload hx hb dL_alike_449 (lv_at hl 7 rfl) ?_
              refine lv_icmp_ne (tgt := 481) hx hb dL_alike_451 (by decide) (fun c_451 => ?_) (fun c_451 => ?_)
              · exact absurd rfl c_451
              · clear c_451
                have hl := lv_sub (l' := [(0, .ref (h 0)), (1, .ref (g 0)), (2, .int (nI x)), (3, .int (nI 1)), (4, .int (nI cv)), (5, .int (nI k)), (6, .int (nI i)), (7, .int (nI jj))]) hl [0, 1, 2, 3, 4, 5, 6, 7] rfl
                exact kk u_446 u_405 H _ ls _ _  hP hD hS hl (by omega) (by omega)
set_option maxHeartbeats 4000000 in
set_option maxRecDepth 100000 in
theorem al_H  (l : Launch) (hl0 : l.stackTraces = false) (hRf : 22 ≤ R.frames) (hRl : 600 ≤ R.locals) (C : jC p s m meth c cL_alike 9 (some .boolean) RL wsL_alike D (jT aI aJ aZ) args A nm) (hXs : jXs A s s.heap) (u : TU st tt) (hi1 : i < sNl st) (hj1 : jj < sNr st) (hP : va_P D vwCl (HC aI aJ h st j ++ (HC aI aJ g tt jt)) H) (hD : va_D A (HC aI aJ h st j ++ (HC aI aJ g tt jt))) (hS : va_S A s.heap H locs) (hl : lv_has ls 9 [(0, .ref (h 0)), (1, .ref (g 0)), (2, .int (nI x)), (3, .int (nI 1)), (4, .int (nI cv)), (5, .int (nI k)), (6, .int (nI i)), (7, .int (nI jj))]) (hRc : cells + 5 ≤ R.cells) (hRs : slots + 30 ≤ R.slots) (kk : ∀ (j jt : Jk) (H : Heap) (locs : List Loc) (ls : Array Slot) (c1 s1 : Nat), va_P D vwCl (HC aI aJ h st j ++ (HC aI aJ g tt jt)) H → va_D A (HC aI aJ h st j ++ (HC aI aJ g tt jt)) → va_S A s.heap H locs → lv_has ls 9 [(0, .ref (h 0)), (1, .ref (g 0)), (2, .int (nI x)), (3, .int (nI 1)), (4, .int (nI cv)), (5, .int (nI (k + 1)))] → c1 ≤ cells + 5 → s1 ≤ slots + 30 → W p l e R s m args below meth c H locs c1 s1 Q (F0 m 289 ls [])) : W p l e R s m args below meth c H locs cells slots Q (F0 m 454 ls []) := by
  obtain ⟨hx, hb, hml, hown, hts, hK, hA, hlocks, hr, hn, hN⟩ := id C
  have hi := u.hs
  have hj := u.ht
  have hnl := u.hnl
  have hnr := u.hnr
  have hle : sN st ≤ sNl st := by rw [u.other.2.2.2.1]; exact sz_le _ _
  have hmL := u.hs.b12
  have hmR := u.hs.r12
  have htl : sNl tt ≤ 12 := u.ht.1
  have htr : sNr tt ≤ 12 := u.ht.2.1
  refine lv_aload_n hx hb dL_alike_454 rfl (lv_at hl 0 rfl) ?_
  refine lv_iload hx hb dL_alike_455 (lv_at hl 6 rfl) ?_
  refine j_calliM (vx_runSW (As := [.ref (h 0), .int (nI i)]) (rest := []) C.fix (c_L_ofLeft l hl0 D aI aJ aZ h st j (nI i) hi H.size) (vx_cwSW 2 hts gL_alike_L_ofLeft rfl rfl rfl (by decide +kernel) ⟨Nat.le_trans (m := 22) (Nat.le_of_ble_eq_true rfl) hRf, Nat.le_trans (m := 600) (Nat.le_of_ble_eq_true rfl) hRl⟩) (jxPreS hXs hA hS hN hK hP hD [0, 1, 2, 3, 4, 5, 6, 7, 8, 9, 10, 11, 12, 13, 14, 15, 16, 17, 18, 19, 20] rfl rfl (by decide)) rfl rfl hl.1 rfl (lv_room (Nat.le_of_ble_eq_true rfl)) dL_alike_457 ⟨by omega, by omega⟩) hA hP hD hS [0, 1, 2, 3, 4, 5, 6, 7, 8, 9, 10, 11, 12, 13, 14, 15, 16, 17, 18, 19, 20] [21, 22, 23, 24, 25, 26, 27, 28, 29, 30, 31, 32, 33, 34, 35, 36, 37, 38, 39, 40, 41] (wr := HC aI aJ g tt jt) rfl rfl (by decide) (by decide) (fun r_457 u_457 H locs q_457 hP hD hS => ?_)
  have hP := hP.sub (ws' := HC aI aJ h st u_457 ++ (HC aI aJ g tt jt)) [21, 22, 23, 24, 25, 26, 27, 28, 29, 30, 31, 32, 33, 34, 35, 36, 37, 38, 39, 40, 41, 0, 1, 2, 3, 4, 5, 6, 7, 8, 9, 10, 11, 12, 13, 14, 15, 16, 17, 18, 19, 20] rfl
  have hD := hD.sub (ws' := HC aI aJ h st u_457 ++ (HC aI aJ g tt jt)) [21, 22, 23, 24, 25, 26, 27, 28, 29, 30, 31, 32, 33, 34, 35, 36, 37, 38, 39, 40, 41, 0, 1, 2, 3, 4, 5, 6, 7, 8, 9, 10, 11, 12, 13, 14, 15, 16, 17, 18, 19, 20] (by decide) rfl
  have hP : va_P D vwCl (HC aI aJ h st u_457 ++ (HC aI aJ g tt jt)) H := hP
  have hD : va_D A (HC aI aJ h st u_457 ++ (HC aI aJ g tt jt)) := hD
  refine j_topi (y := pv (sL st i)) (ol_at (ix_of (by omega) hi1 rfl) q_457) ?_
  refine lv_iload hx hb dL_alike_460 (lv_at hl 7 rfl) ?_
  refine lv_icmp_ne (tgt := 477) hx hb dL_alike_462 (by decide) (fun c_462 => ?_) (fun c_462 => ?_)
  · clear c_462
    refine lv_iconst (v := nI 1) hx hb dL_alike_477 (by decide) ?_
    refine lv_goto (tgt := 482) hx hb dL_alike_478 (by decide) ?_
    refine lv_istore_n (lv' := [(3, .int (nI 1)), (0, .ref (h 0)), (1, .ref (g 0)), (2, .int (nI x)), (4, .int (nI cv)), (5, .int (nI k)), (6, .int (nI i)), (7, .int (nI jj))]) hx hb dL_alike_482 rfl hl (by decide) rfl (fun ls hl => ?_)
    refine lv_iinc (v := nI (k + 1)) (lv' := [(5, .int (nI (k + 1))), (3, .int (nI 1)), (0, .ref (h 0)), (1, .ref (g 0)), (2, .int (nI x)), (4, .int (nI cv)), (6, .int (nI i)), (7, .int (nI jj))]) hx hb dL_alike_483 hl (k := 5) rfl (inc_nI _ _) (by decide) rfl (fun ls hl => ?_)
    refine lv_goto (tgt := 289) hx hb dL_alike_486 (by decide) ?_
    have hl := lv_sub (l' := [(0, .ref (h 0)), (1, .ref (g 0)), (2, .int (nI x)), (3, .int (nI 1)), (4, .int (nI cv)), (5, .int (nI (k + 1)))]) hl [2, 3, 4, 1, 5, 0] rfl
    exact kk u_457 jt H _ ls _ _  hP hD hS hl (by omega) (by omega)
  · have hpr : sL st i = some jj := pv_inj (hmL i) (fun v hv => by cases hv; omega) c_462
    refine lv_aload_n hx hb dL_alike_465 rfl (lv_at hl 0 rfl) ?_
    refine lv_iload hx hb dL_alike_466 (lv_at hl 6 rfl) ?_
    refine lv_iload hx hb dL_alike_468 (lv_at hl 7 rfl) ?_
    refine j_calliM (vx_runSW (As := [.ref (h 0), .int (nI i), .int (nI jj)]) (rest := []) C.fix (c_L_inSome l hl0 D aI aJ aZ h st u_457 (nI i) (nI jj) hi H.size) (vx_cwSW 3 hts gL_alike_L_inSome rfl rfl rfl (by decide +kernel) ⟨Nat.le_trans (m := 22) (Nat.le_of_ble_eq_true rfl) hRf, Nat.le_trans (m := 600) (Nat.le_of_ble_eq_true rfl) hRl⟩) (jxPreS hXs hA hS hN hK hP hD [0, 1, 2, 3, 4, 5, 6, 7, 8, 9, 10, 11, 12, 13, 14, 15, 16, 17, 18, 19, 20] rfl rfl (by decide)) rfl rfl hl.1 rfl (lv_room (Nat.le_of_ble_eq_true rfl)) dL_alike_470 ⟨by omega, by omega⟩) hA hP hD hS [0, 1, 2, 3, 4, 5, 6, 7, 8, 9, 10, 11, 12, 13, 14, 15, 16, 17, 18, 19, 20] [21, 22, 23, 24, 25, 26, 27, 28, 29, 30, 31, 32, 33, 34, 35, 36, 37, 38, 39, 40, 41] (wr := HC aI aJ g tt jt) rfl rfl (by decide) (by decide) (fun r_470 u_470 H locs q_470 hP hD hS => ?_)
    have hP := hP.sub (ws' := HC aI aJ h st u_470 ++ (HC aI aJ g tt jt)) [21, 22, 23, 24, 25, 26, 27, 28, 29, 30, 31, 32, 33, 34, 35, 36, 37, 38, 39, 40, 41, 0, 1, 2, 3, 4, 5, 6, 7, 8, 9, 10, 11, 12, 13, 14, 15, 16, 17, 18, 19, 20] rfl
    have hD := hD.sub (ws' := HC aI aJ h st u_470 ++ (HC aI aJ g tt jt)) [21, 22, 23, 24, 25, 26, 27, 28, 29, 30, 31, 32, 33, 34, 35, 36, 37, 38, 39, 40, 41, 0, 1, 2, 3, 4, 5, 6, 7, 8, 9, 10, 11, 12, 13, 14, 15, 16, 17, 18, 19, 20] (by decide) rfl
    have hP : va_P D vwCl (HC aI aJ h st u_470 ++ (HC aI aJ g tt jt)) H := hP
    have hD : va_D A (HC aI aJ h st u_470 ++ (HC aI aJ g tt jt)) := hD
    refine j_topi (y := nI 1) ((is_at (ix_of (by omega) hi1 rfl) (ix_of (by omega) hj1 rfl) q_470).trans (sm_1 hi hpr)) ?_
    refine lv_iconst (v := nI 1) hx hb dL_alike_473 (by decide) ?_
    refine lv_icmp_ne (tgt := 481) hx hb dL_alike_474 (by decide) (fun c_474 => ?_) (fun c_474 => ?_)
    · exact absurd rfl c_474
    · clear c_474
      refine lv_iconst (v := nI 1) hx hb dL_alike_477 (by decide) ?_
      refine lv_goto (tgt := 482) hx hb dL_alike_478 (by decide) ?_
      refine lv_istore_n (lv' := [(3, .int (nI 1)), (0, .ref (h 0)), (1, .ref (g 0)), (2, .int (nI x)), (4, .int (nI cv)), (5, .int (nI k)), (6, .int (nI i)), (7, .int (nI jj))]) hx hb dL_alike_482 rfl hl (by decide) rfl (fun ls hl => ?_)
      refine lv_iinc (v := nI (k + 1)) (lv' := [(5, .int (nI (k + 1))), (3, .int (nI 1)), (0, .ref (h 0)), (1, .ref (g 0)), (2, .int (nI x)), (4, .int (nI cv)), (6, .int (nI i)), (7, .int (nI jj))]) hx hb dL_alike_483 hl (k := 5) rfl (inc_nI _ _) (by decide) rfl (fun ls hl => ?_)
      refine lv_goto (tgt := 289) hx hb dL_alike_486 (by decide) ?_
      have hl := lv_sub (l' := [(0, .ref (h 0)), (1, .ref (g 0)), (2, .int (nI x)), (3, .int (nI 1)), (4, .int (nI cv)), (5, .int (nI (k + 1)))]) hl [2, 3, 4, 1, 5, 0] rfl
      exact kk u_470 jt H _ ls _ _  hP hD hS hl (by omega) (by omega)
theorem al_I (l : Launch) (hl0 : l.stackTraces = false) (hRf : 22 ≤ R.frames) (hRl : 600 ≤ R.locals) (C : jC p s m meth c cL_alike 9 (some .boolean) RL wsL_alike D (jT aI aJ aZ) args A nm) (hXs : jXs A s s.heap) (u : TU st tt) (hl1 : 0 < sNl st) (hr1 : 0 < sNr st) (hx2 : x < 2 ^ 30) {c0 s0 : Nat} (hRc : c0 + 245 ≤ R.cells) (hRs : s0 + 1470 ≤ R.slots)
    (kx : ∀ (j jt : Jk) (H : Heap) (locs : List Loc) (ls : Array Slot) (c1 s1 : Nat), va_P D vwCl (HC aI aJ h st j ++ (HC aI aJ g tt jt)) H → va_D A (HC aI aJ h st j ++ (HC aI aJ g tt jt)) → va_S A s.heap H locs → lv_has ls 9 [(0, .ref (h 0)), (1, .ref (g 0)), (2, .int (nI x)), (3, .int (nI 1)), (4, .int (nI cv))] → c1 ≤ c0 + 245 → s1 ≤ s0 + 1470 → W p l e R s m args below meth c H locs c1 s1 Q (F0 m 489 ls [])) :
    ∀ (N k : Nat) (j jt : Jk) (H : Heap) (locs : List Loc) (ls : Array Slot) (c1 s1 : Nat), k + N = 7 → k ≤ 6 → va_P D vwCl (HC aI aJ h st j ++ (HC aI aJ g tt jt)) H → va_D A (HC aI aJ h st j ++ (HC aI aJ g tt jt)) → va_S A s.heap H locs → lv_has ls 9 [(0, .ref (h 0)), (1, .ref (g 0)), (2, .int (nI x)), (3, .int (nI 1)), (4, .int (nI cv)), (5, .int (nI k))] → c1 ≤ c0 + 35 * k → s1 ≤ s0 + 210 * k → W p l e R s m args below meth c H locs c1 s1 Q (F0 m 289 ls []) := by
  intro N
  induction N with
  | zero => intro k j jt H locs ls c1 s1 h1 h2; omega
  | succ N ih =>
    intro k j jt H locs ls c1 s1 h1 h2 hP hD hS hl k1 k2
    refine al_E l hl0 hRf hRl C hXs u hl1 hr1 hx2 h2 hP hD hS hl (by omega) (by omega) (fun j jt H locs ls c2 s2 hP hD hS hl k3 k4 => kx j jt H locs ls c2 s2 hP hD hS hl (by omega) (by omega)) (fun i jj j jt H locs ls c2 s2 hk hi1 hj1 hP hD hS hl k3 k4 => ?_)
    refine al_F l hl0 hRf hRl C hXs u hi1 hj1 hP hD hS hl (by omega) (by omega) (fun j jt H locs ls c3 s3 hP hD hS hl k5 k6 => ?_)
    refine al_G l hl0 hRf hRl C hXs u hi1 hj1 hP hD hS hl (by omega) (by omega) (fun j jt H locs ls c4 s4 hP hD hS hl k7 k8 => ?_)
    refine al_H l hl0 hRf hRl C hXs u hi1 hj1 hP hD hS hl (by omega) (by omega) (fun j jt H locs ls c5 s5 hP hD hS hl k9 k10 => ?_)
    exact ih (k + 1) j jt H locs ls c5 s5 (by omega) (by omega) hP hD hS hl (by omega) (by omega)
set_option maxHeartbeats 4000000 in
set_option maxRecDepth 100000 in
theorem al_Z  (l : Launch) (hl0 : l.stackTraces = false) (hRf : 22 ≤ R.frames) (hRl : 600 ≤ R.locals) (C : jC p s m meth c cL_alike 9 (some .boolean) RL wsL_alike D (jT aI aJ aZ) args A nm) (hXs : jXs A s s.heap) (u : TU st tt) (hcv : cv = sN st) (hP : va_P D vwCl (HC aI aJ h st j ++ (HC aI aJ g tt jt)) H) (hD : va_D A (HC aI aJ h st j ++ (HC aI aJ g tt jt))) (hS : va_S A s.heap H locs) (hl : lv_has ls 9 [(0, .ref (h 0)), (1, .ref (g 0)), (2, .int (nI x)), (3, .int (nI 1)), (4, .int (nI cv))]) (hRc : cells + 0 ≤ R.cells) (hRs : slots + 0 ≤ R.slots) (kk : ∀ (j jt : Jk) (H : Heap) (locs : List Loc) (ls : Array Slot) (c1 s1 : Nat), va_P D vwCl (HC aI aJ h st j ++ (HC aI aJ g tt jt)) H → va_D A (HC aI aJ h st j ++ (HC aI aJ g tt jt)) → va_S A s.heap H locs → c1 ≤ cells → s1 ≤ slots → W p l e R s m args below meth c H locs c1 s1 Q (F0 m 507 ls [.int (nI 1)])) : W p l e R s m args below meth c H locs cells slots Q (F0 m 489 ls []) := by
  obtain ⟨hx, hb, hml, hown, hts, hK, hA, hlocks, hr, hn, hN⟩ := id C
  have hi := u.hs
  have hj := u.ht
  have hnl := u.hnl
  have hnr := u.hnr
  have hle : sN st ≤ sNl st := by rw [u.other.2.2.2.1]; exact sz_le _ _
  have hmL := u.hs.b12
  have hmR := u.hs.r12
  have htl : sNl tt ≤ 12 := u.ht.1
  have htr : sNr tt ≤ 12 := u.ht.2.1
  refine lv_iload_n hx hb dL_alike_489 rfl (lv_at hl 3 rfl) ?_
  refine lv_if_eq (tgt := 506) hx hb dL_alike_490 (by decide) (fun c_490 => ?_) (fun c_490 => ?_)
  · exact absurd c_490 (by decide)
  · clear c_490
    refine lv_iload hx hb dL_alike_493 (lv_at hl 4 rfl) ?_
    refine lv_aload_n hx hb dL_alike_495 rfl (lv_at hl 0 rfl) ?_
    refine j_calli (va_runV (As := []) (rest := [.int (nI cv)]) C.fix (k_size l D aI aJ aZ h st j hi H.size) (cwV 0 hts gL_alike_X6_size rfl rfl rfl (by decide +kernel) ⟨Nat.le_trans (m := 22) (Nat.le_of_ble_eq_true rfl) hRf, Nat.le_trans (m := 600) (Nat.le_of_ble_eq_true rfl) hRl⟩) (jPreV hN hK hP hD [0, 1, 2, 3, 4, 5, 6, 7, 8, 9, 10, 11, 12, 13, 14, 15, 16, 17, 18, 19, 20] rfl rfl (by decide) (ci := 6) (q0 := 0) rfl rfl) rfl rfl hl.1 rfl (lv_room (Nat.le_of_ble_eq_true rfl)) dL_alike_496 ⟨by omega, by omega⟩) hA hP hD hS [0, 1, 2, 3, 4, 5, 6, 7, 8, 9, 10, 11, 12, 13, 14, 15, 16, 17, 18, 19, 20] [21, 22, 23, 24, 25, 26, 27, 28, 29, 30, 31, 32, 33, 34, 35, 36, 37, 38, 39, 40, 41] (wr := HC aI aJ g tt jt) rfl rfl (by decide) (by decide) (fun r_496 u_496 H locs q_496 hP hD hS => ?_)
    have hP := hP.sub (ws' := HC aI aJ h st u_496 ++ (HC aI aJ g tt jt)) [21, 22, 23, 24, 25, 26, 27, 28, 29, 30, 31, 32, 33, 34, 35, 36, 37, 38, 39, 40, 41, 0, 1, 2, 3, 4, 5, 6, 7, 8, 9, 10, 11, 12, 13, 14, 15, 16, 17, 18, 19, 20] rfl
    have hD := hD.sub (ws' := HC aI aJ h st u_496 ++ (HC aI aJ g tt jt)) [21, 22, 23, 24, 25, 26, 27, 28, 29, 30, 31, 32, 33, 34, 35, 36, 37, 38, 39, 40, 41, 0, 1, 2, 3, 4, 5, 6, 7, 8, 9, 10, 11, 12, 13, 14, 15, 16, 17, 18, 19, 20] (by decide) rfl
    have hP : va_P D vwCl (HC aI aJ h st u_496 ++ (HC aI aJ g tt jt)) H := hP
    have hD : va_D A (HC aI aJ h st u_496 ++ (HC aI aJ g tt jt)) := hD
    refine j_topi (y := nI cv) (q_496.trans (congrArg nI hcv.symm)) ?_
    refine lv_icmp_ne (tgt := 506) hx hb dL_alike_499 (by decide) (fun c_499 => ?_) (fun c_499 => ?_)
    · exact absurd rfl c_499
    · clear c_499
      refine lv_iconst (v := nI 1) hx hb dL_alike_502 (by decide) ?_
      refine lv_goto (tgt := 507) hx hb dL_alike_503 (by decide) ?_
      exact kk u_496 jt H _ ls _ _ hP hD hS (by omega) (by omega)
end ALS
set_option maxHeartbeats 4000000 in
set_option maxRecDepth 100000 in
theorem c_L_alike (l : Launch) (hl0 : l.stackTraces = false) (D : va_G) (aI aJ aZ : ClassId) (h g : Nat → Nat) (st tt : St) (j jt : Jk) (x : Nat) (u : TU st tt) (hx2 : x < 2 ^ 30) (z0 : Nat) : Met l yL_alike wsL_alike ({ frames := 22, cells := 401, slots := 2406, locals := 600 }) (va_Pc [.ref (h 0), .ref (g 0), .int (nI x)] (jXI D (jT aI aJ aZ) (W2 aI aJ h g st tt j jt) z0)) (va_Qi (S := Jk × Jk) (fun r u => r = nI 1) (fun u t => jO D (jT aI aJ aZ) (va_A (W2 aI aJ h g st tt j jt) z0) (W2 aI aJ h g st tt u.1 u.2) t) (va_A (W2 aI aJ h g st tt j jt) z0)) 401 2406 (va_A (W2 aI aJ h g st tt j jt) z0) := by
  refine jy_of (Qc := fun A => va_Qi (S := Jk × Jk) (fun r u => r = nI 1) (fun u t => jO D (jT aI aJ aZ) A (W2 aI aJ h g st tt u.1 u.2) t) A) (own := RL) (nm := "alike") (by decide +kernel) rfl rfl rfl (Nat.le_of_ble_eq_true rfl) ?_
  intro p e s m below meth c A ls H locs C hXs hP hD hS hl
  have hl : lv_has ls 9 [(0, .ref (h 0)), (1, .ref (g 0)), (2, .int (nI x))] := hl
  have hnl := u.hnl
  have hnr := u.hnr
  have hRf : 22 ≤ ({ frames := 22, cells := 401, slots := 2406, locals := 600 } : Room).frames := Nat.le_refl _
  have hRl : 600 ≤ ({ frames := 22, cells := 401, slots := 2406, locals := 600 } : Room).locals := Nat.le_refl _
  have hRc : 401 ≤ ({ frames := 22, cells := 401, slots := 2406, locals := 600 } : Room).cells := Nat.le_refl _
  have hRs : 2406 ≤ ({ frames := 22, cells := 401, slots := 2406, locals := 600 } : Room).slots := Nat.le_refl _
  revert hRf hRl hRc hRs
  generalize hR : ({ frames := 22, cells := 401, slots := 2406, locals := 600 } : Room) = R
  intro hRf hRl hRc hRs
  refine al_A l hl0 hRf hRl C hXs u hP hD hS hl (by omega) (by omega) (fun j jt H locs ls c1 s1 hP hD hS hl k1 k2 => ?_)
  refine al_B l hl0 hRf hRl C hXs u (c0 := 0) (s0 := 0) (by omega) (by omega) (fun j jt H locs ls c2 s2 hP hD hS hl k3 k4 => ?_) (sNl st + 1) 0 j jt H locs ls c1 s1 (Nat.zero_add _) (Nat.zero_le _) hP hD hS hl (by omega) (by omega)
  obtain ⟨hx, hb, hml, hown, hts, hK, hA, hlocks, hr, hn, hN⟩ := id C
  refine lv_iconst (v := nI 0) hx hb dL_alike_193 (by decide) ?_
  refine lv_istore (lv' := [(5, .int (nI 0)), (0, .ref (h 0)), (1, .ref (g 0)), (2, .int (nI x)), (3, .int (nI 1)), (4, .int (nI (cnt (sNl st) (fun i => !LHl (sE st) (sL st) (sR st) (sNl st) i))))]) hx hb dL_alike_194 hl (by decide) rfl (fun ls hl => ?_)
  have hl := lv_sub (l' := [(0, .ref (h 0)), (1, .ref (g 0)), (2, .int (nI x)), (3, .int (nI 1)), (4, .int (nI (cnt (sNl st) (fun i => !LHl (sE st) (sL st) (sR st) (sNl st) i) + cnt 0 (LHr (sE st) (sL st) (sR st) (sNl st))))), (5, .int (nI 0))]) hl [1, 2, 3, 4, 5, 0] rfl
  refine al_C (cv := cnt (sNl st) (fun i => !LHl (sE st) (sL st) (sR st) (sNl st) i)) l hl0 hRf hRl C hXs u (c0 := 78) (s0 := 468) (by omega) (by omega) (fun j jt H locs ls c3 s3 hP hD hS hl k5 k6 => ?_) (sNr st + 1) 0 j jt H locs ls c2 s2 (Nat.zero_add _) (Nat.zero_le _) hP hD hS hl (by omega) (by omega)
  have hl := lv_sub (l' := [(0, .ref (h 0)), (1, .ref (g 0)), (2, .int (nI x)), (3, .int (nI 1)), (4, .int (nI (cnt (sNl st) (fun i => !LHl (sE st) (sL st) (sR st) (sNl st) i) + cnt (sNr st) (LHr (sE st) (sL st) (sR st) (sNl st)))))]) hl [0, 1, 2, 3, 4] rfl
  have hcv := u.cover
  generalize cnt (sNl st) (fun i => !LHl (sE st) (sL st) (sR st) (sNl st) i) + cnt (sNr st) (LHr (sE st) (sL st) (sR st) (sNl st)) = cv at hl hcv
  have fin : ∀ (j jt : Jk) (H : Heap) (locs : List Loc) (ls : Array Slot) (c1 s1 : Nat), va_P D vwCl (W2 aI aJ h g st tt j jt) H → va_D A (W2 aI aJ h g st tt j jt) → va_S A s.heap H locs → lv_has ls 9 [(0, .ref (h 0)), (1, .ref (g 0)), (2, .int (nI x)), (3, .int (nI 1)), (4, .int (nI cv))] → c1 ≤ 401 → s1 ≤ 2406 → W p l e R s m (([.ref (h 0), .ref (g 0), .int (nI x)] : List Value)).toArray below meth c H locs c1 s1 (MQ below (va_Qi (S := Jk × Jk) (fun r u => r = nI 1) (fun u t => jO D (jT aI aJ aZ) A (W2 aI aJ h g st tt u.1 u.2) t) A) (([.ref (h 0), .ref (g 0), .int (nI x)] : List Value)).toArray s R.cells R.slots A) (F0 m 489 ls []) := by
    intro j jt H locs ls c1 s1 hP hD hS hl k1 k2
    refine al_Z l hl0 hRf hRl C hXs u hcv hP hD hS hl (by omega) (by omega) (fun j jt H locs ls c2 s2 hP hD hS k3 k4 => ?_)
    subst hR
    refine W.widen (k := 401) (n := 2406) (by omega) (by omega) ?_
    exact j_zret (w1 := fun u => W2 aI aJ h g st tt u.1 u.2) (post := fun r u => r = nI 1) C (j, jt) true rfl hP hD hS rfl dL_alike_507
  refine al_D l hl0 hRf hRl C hXs u hP hD hS hl (by omega) (by omega) (fun j jt H locs ls c4 s4 hP hD hS hl k7 k8 => fin j jt H locs ls c4 s4 hP hD hS hl (by omega) (by omega)) (fun j jt H locs ls c4 s4 hl1 hr1 hP hD hS hl k7 k8 => ?_)
  exact al_I l hl0 hRf hRl C hXs u hl1 hr1 hx2 (c0 := 156) (s0 := 936) (by omega) (by omega) (fun j jt H locs ls c5 s5 hP hD hS hl k9 k10 => fin j jt H locs ls c5 s5 hP hD hS hl (by omega) (by omega)) 7 0 j jt H locs ls c4 s4 rfl (by omega) hP hD hS hl (by omega) (by omega)
