abbrev w_X1_remove_o (aI aJ aZ : ClassId) (g ga gb : Nat) (E : Nat → Nat → Bool) (nl : Nat) (nr : Nat) (ne : Nat) (x : Nat) (y : Nat) (uu0 : Unit) : va_W := [(g, .inr (1, [.ref ga, .ref gb, .int (nI nl), .int (nI nr), .int (nI (ne - 1))])), (ga, .inl (aI, 12, (.inl (fun kk => nI (mk ((rmE E x y) kk)))))), (gb, .inl (aI, 12, (.inl (fun kk => nI (mk ((tr (rmE E x y)) kk))))))]
abbrev p_X1_remove (E : Nat → Nat → Bool) (nl : Nat) (nr : Nat) (ne : Nat) (x : Nat) (y : Nat) (uu0 : Unit) : Prop := True
set_option maxHeartbeats 4000000 in
set_option maxRecDepth 100000 in
theorem c_X1_remove (l : Launch) (D : va_G) (aI aJ aZ : ClassId) (g ga gb : Nat) (E : Nat → Nat → Bool) (nl : Nat) (nr : Nat) (ne : Nat) (x : Nat) (y : Nat) (hx1 : x < 12) (hy1 : y < 12) (hne : 0 < ne) (sz : Nat) : Met l yX1_remove wsX1_remove ({ frames := 0, cells := 0, slots := 0, locals := 0 }) (va_Pc [.ref g, .int (nI x), .int (nI y)] (jI D (jT aI aJ aZ) [(g, .inr (1, [.ref ga, .ref gb, .int (nI nl), .int (nI nr), .int (nI ne)])), (ga, .inl (aI, 12, (.inl (fun kk => nI (mk (E kk)))))), (gb, .inl (aI, 12, (.inl (fun kk => nI (mk ((tr E) kk))))))] sz)) (va_Qv (S := Unit) (p_X1_remove E nl nr ne x y) (fun u t => jO D (jT aI aJ aZ) (va_A [(g, .inr (1, [.ref ga, .ref gb, .int (nI nl), .int (nI nr), .int (nI ne)])), (ga, .inl (aI, 12, (.inl (fun kk => nI (mk (E kk)))))), (gb, .inl (aI, 12, (.inl (fun kk => nI (mk ((tr E) kk))))))] sz) (w_X1_remove_o aI aJ aZ g ga gb E nl nr ne x y u) t) (va_A [(g, .inr (1, [.ref ga, .ref gb, .int (nI nl), .int (nI nr), .int (nI ne)])), (ga, .inl (aI, 12, (.inl (fun kk => nI (mk (E kk)))))), (gb, .inl (aI, 12, (.inl (fun kk => nI (mk ((tr E) kk))))))] sz)) 0 0 (va_A [(g, .inr (1, [.ref ga, .ref gb, .int (nI nl), .int (nI nr), .int (nI ne)])), (ga, .inl (aI, 12, (.inl (fun kk => nI (mk (E kk)))))), (gb, .inl (aI, 12, (.inl (fun kk => nI (mk ((tr E) kk))))))] sz) := by
  refine j_of (Qc := fun A => va_Qv (S := Unit) (p_X1_remove E nl nr ne x y) (fun u t => jO D (jT aI aJ aZ) A (w_X1_remove_o aI aJ aZ g ga gb E nl nr ne x y u) t) A) (own := RX1) (nm := "remove") (by decide +kernel) rfl rfl rfl (Nat.le_of_ble_eq_true rfl) ?_
  intro p e s m below meth c A ls H locs C hP hD hS hl
  obtain ⟨hx, hb, hml, hown, hts, hK, hA, hlocks, hr, hn, hN⟩ := id C
  have L_9 := hts (.fieldLink RX1 9 "Phasehall$Graph" "rightsOf" "[I") (List.mem_of_getElem? (i := 1) rfl)
  have L_15 := hts (.fieldLink RX1 15 "Phasehall$Graph" "leftsOf" "[I") (List.mem_of_getElem? (i := 2) rfl)
  have L_22 := hts (.fieldLink RX1 22 "Phasehall$Graph" "edgeCount" "I") (List.mem_of_getElem? (i := 3) rfl)
  have inX1 : ∀ w ∈ wsX10, w ∈ wsX1_remove := fun _ h => List.mem_cons_of_mem _ (List.mem_append_right _ h)
  have hl : lv_has ls 3 [(0, .ref g), (1, .int (nI x)), (2, .int (nI y))] := hl
  refine lv_aload_n hx hb dX1_remove_0 rfl (lv_at hl 0 rfl) ?_
  refine va_get (D := D) (ci := 1) (v := .ref ga) (C := RX1) (T := TX1) (N := 5) hx hb hts inX1 hown hK hP 0 rfl rfl 0 (by decide) L_9 (fun _ h9 => h9) rfl dX1_remove_1 ?_
  refine lv_iload_n hx hb dX1_remove_4 rfl (lv_at hl 1 rfl) ?_
  refine lv_dup2_11 hx hb dX1_remove_5 rfl rfl ?_
  refine j_iald (v := nI (mk (E x))) hx hb hK hP 1 0 rfl rfl (by omega) (by omega) (rfl) dX1_remove_6 ?_
  refine lv_iconst (v := nI 1) hx hb dX1_remove_7 (by decide) ?_
  refine lv_iload_n hx hb dX1_remove_8 rfl (lv_at hl 2 rfl) ?_
  refine lv_ishl hx hb dX1_remove_9 ?_
  refine j_topi (y := (nI (2 ^ y))) (one_shl (by omega)) ?_
  refine lv_iconst (v := oI none) hx hb dX1_remove_10 (by decide) ?_
  refine lv_ixor hx hb dX1_remove_11 ?_
  refine j_topi (y := (nI (2 ^ y) ^^^ (-1))) (congrArg (fun z => nI (2 ^ y) ^^^ z) (show oI none = (-1 : Int32) from rfl)) ?_
  refine lv_iand hx hb dX1_remove_12 ?_
  refine j_topi (y := (nI (mk (fun z => E x z && !decide (z = y))))) (nI_notbit (E x)) ?_
  refine j_iast (g := fun kk => nI (mk ((va_up E x (fun z => E x z && !decide (z = y))) kk))) hx hb hK hP hD hS 1 0 rfl rfl (by omega) (by omega) (upd_sI _ _ (fun z => E x z && !decide (z = y))) dX1_remove_13 (fun H locs hP hD hS => ?_)
  have hP : va_P D vwCl [(g, .inr (1, [.ref ga, .ref gb, .int (nI nl), .int (nI nr), .int (nI ne)])), (ga, .inl (aI, 12, (.inl (fun kk => nI (mk ((va_up E x (fun z => E x z && !decide (z = y))) kk)))))), (gb, .inl (aI, 12, (.inl (fun kk => nI (mk ((tr E) kk))))))] H := hP
  have hD : va_D A [(g, .inr (1, [.ref ga, .ref gb, .int (nI nl), .int (nI nr), .int (nI ne)])), (ga, .inl (aI, 12, (.inl (fun kk => nI (mk ((va_up E x (fun z => E x z && !decide (z = y))) kk)))))), (gb, .inl (aI, 12, (.inl (fun kk => nI (mk ((tr E) kk))))))] := hD
  refine lv_aload_n hx hb dX1_remove_14 rfl (lv_at hl 0 rfl) ?_
  refine va_get (D := D) (ci := 1) (v := .ref gb) (C := RX1) (T := TX1) (N := 5) hx hb hts inX1 hown hK hP 0 rfl rfl 1 (by decide) L_15 (fun _ h9 => h9) rfl dX1_remove_15 ?_
  refine lv_iload_n hx hb dX1_remove_18 rfl (lv_at hl 2 rfl) ?_
  refine lv_dup2_11 hx hb dX1_remove_19 rfl rfl ?_
  refine j_iald (v := nI (mk ((tr E) y))) hx hb hK hP 2 0 rfl rfl (by omega) (by omega) (rfl) dX1_remove_20 ?_
  refine lv_iconst (v := nI 1) hx hb dX1_remove_21 (by decide) ?_
  refine lv_iload_n hx hb dX1_remove_22 rfl (lv_at hl 1 rfl) ?_
  refine lv_ishl hx hb dX1_remove_23 ?_
  refine j_topi (y := (nI (2 ^ x))) (one_shl (by omega)) ?_
  refine lv_iconst (v := oI none) hx hb dX1_remove_24 (by decide) ?_
  refine lv_ixor hx hb dX1_remove_25 ?_
  refine j_topi (y := (nI (2 ^ x) ^^^ (-1))) (congrArg (fun z => nI (2 ^ x) ^^^ z) (show oI none = (-1 : Int32) from rfl)) ?_
  refine lv_iand hx hb dX1_remove_26 ?_
  refine j_topi (y := (nI (mk (fun z => tr E y z && !decide (z = x))))) (nI_notbit (tr E y)) ?_
  refine j_iast (g := fun kk => nI (mk ((va_up (tr E) y (fun z => tr E y z && !decide (z = x))) kk))) hx hb hK hP hD hS 2 0 rfl rfl (by omega) (by omega) (upd_sI _ _ (fun z => tr E y z && !decide (z = x))) dX1_remove_27 (fun H locs hP hD hS => ?_)
  have hP : va_P D vwCl [(g, .inr (1, [.ref ga, .ref gb, .int (nI nl), .int (nI nr), .int (nI ne)])), (ga, .inl (aI, 12, (.inl (fun kk => nI (mk ((va_up E x (fun z => E x z && !decide (z = y))) kk)))))), (gb, .inl (aI, 12, (.inl (fun kk => nI (mk ((va_up (tr E) y (fun z => tr E y z && !decide (z = x))) kk))))))] H := hP
  have hD : va_D A [(g, .inr (1, [.ref ga, .ref gb, .int (nI nl), .int (nI nr), .int (nI ne)])), (ga, .inl (aI, 12, (.inl (fun kk => nI (mk ((va_up E x (fun z => E x z && !decide (z = y))) kk)))))), (gb, .inl (aI, 12, (.inl (fun kk => nI (mk ((va_up (tr E) y (fun z => tr E y z && !decide (z = x))) kk))))))] := hD
  refine lv_aload_n hx hb dX1_remove_28 rfl (lv_at hl 0 rfl) ?_
  refine lv_dup hx hb dX1_remove_29 rfl ?_
  refine va_get (D := D) (ci := 1) (v := .int (nI ne)) (C := RX1) (T := TX1) (N := 5) hx hb hts inX1 hown hK hP 0 rfl rfl 4 (by decide) L_22 (fun _ h9 => h9) rfl dX1_remove_30 ?_
  refine lv_iconst (v := nI 1) hx hb dX1_remove_33 (by decide) ?_
  refine lv_isub hx hb dX1_remove_34 ?_
  refine j_topi (y := (nI (ne - 1))) (pk_sub (by omega)) ?_
  refine va_put (D := D) (ci := 1) (v := .int (nI (ne - 1))) (ty := .int) (C := RX1) (T := TX1) (N := 5) hx hb hts inX1 tyX1 tyX1_ok nmX1 hown hK hP hD hS 0 rfl rfl 4 (by decide) L_22 (fun _ h9 => h9) rfl (by decide +kernel) rfl rfl (Nat.le_of_ble_eq_true rfl) dX1_remove_35 (fun H locs hP hD hS => ?_)
  have hP : va_P D vwCl [(g, .inr (1, [.ref ga, .ref gb, .int (nI nl), .int (nI nr), .int (nI (ne - 1))])), (ga, .inl (aI, 12, (.inl (fun kk => nI (mk ((va_up E x (fun z => E x z && !decide (z = y))) kk)))))), (gb, .inl (aI, 12, (.inl (fun kk => nI (mk ((va_up (tr E) y (fun z => tr E y z && !decide (z = x))) kk))))))] H := hP
  have hD : va_D A [(g, .inr (1, [.ref ga, .ref gb, .int (nI nl), .int (nI nr), .int (nI (ne - 1))])), (ga, .inl (aI, 12, (.inl (fun kk => nI (mk ((va_up E x (fun z => E x z && !decide (z = y))) kk)))))), (gb, .inl (aI, 12, (.inl (fun kk => nI (mk ((va_up (tr E) y (fun z => tr E y z && !decide (z = x))) kk))))))] := hD
  have hP := va_reA (g := fun kk => nI (mk ((rmE E x y) kk))) hP 1 rfl (fun kk hkk => by exact congrArg (fun f => nI (mk f)) (rm_3 E x y kk))
  have hD := hD.set (p := 1) (e := .inl (aI, 12, (.inl (fun kk => nI (mk ((rmE E x y) kk)))))) rfl
  have hP := va_reA (g := fun kk => nI (mk ((tr (rmE E x y)) kk))) hP 2 rfl (fun kk hkk => by exact congrArg (fun f => nI (mk f)) (rm_4 E x y kk))
  have hD := hD.set (p := 2) (e := .inl (aI, 12, (.inl (fun kk => nI (mk ((tr (rmE E x y)) kk)))))) rfl
  have hP : va_P D vwCl [(g, .inr (1, [.ref ga, .ref gb, .int (nI nl), .int (nI nr), .int (nI (ne - 1))])), (ga, .inl (aI, 12, (.inl (fun kk => nI (mk ((rmE E x y) kk)))))), (gb, .inl (aI, 12, (.inl (fun kk => nI (mk ((tr (rmE E x y)) kk))))))] H := hP
  have hD : va_D A [(g, .inr (1, [.ref ga, .ref gb, .int (nI nl), .int (nI nr), .int (nI (ne - 1))])), (ga, .inl (aI, 12, (.inl (fun kk => nI (mk ((rmE E x y) kk)))))), (gb, .inl (aI, 12, (.inl (fun kk => nI (mk ((tr (rmE E x y)) kk))))))] := hD
  exact j_vret (w1 := fun u => w_X1_remove_o aI aJ aZ g ga gb E nl nr ne x y u) (post := p_X1_remove E nl nr ne x y) C () hP hD hS trivial dX1_remove_38
