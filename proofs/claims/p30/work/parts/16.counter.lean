abbrev w_J7_fill_d0a16_o (aI aJ aZ : ClassId) (q : Nat) (f : Nat → Int64) (v : Int64) (n : Nat) (uu0 : Unit) : va_W := [(q, .inl (aJ, n, (.inr (.inl (fun _ => v)))))]
abbrev p_J7_fill_d0a16 (f : Nat → Int64) (v : Int64) (n : Nat) (uu0 : Unit) : Prop := True
set_option maxHeartbeats 4000000 in
set_option maxRecDepth 100000 in
theorem c_J7_fill_d0a16 (l : Launch) (D : va_G) (aI aJ aZ : ClassId) (q : Nat) (f : Nat → Int64) (v : Int64) (n : Nat) (hn : n < 2 ^ 31) (sz : Nat) : Met l yJ7_fill_d0a16 wsJ7_fill_d0a16 ({ frames := 0, cells := 0, slots := 0, locals := 0 }) (va_Pc [.ref q, .long v] (jI D (jT aI aJ aZ) [(q, .inl (aJ, n, (.inr (.inl (f)))))] sz)) (va_Qv (S := Unit) (p_J7_fill_d0a16 f v n) (fun u t => jO D (jT aI aJ aZ) (va_A [(q, .inl (aJ, n, (.inr (.inl (f)))))] sz) (w_J7_fill_d0a16_o aI aJ aZ q f v n u) t) (va_A [(q, .inl (aJ, n, (.inr (.inl (f)))))] sz)) 0 0 (va_A [(q, .inl (aJ, n, (.inr (.inl (f)))))] sz) := by
  refine j_of (Qc := fun A => va_Qv (S := Unit) (p_J7_fill_d0a16 f v n) (fun u t => jO D (jT aI aJ aZ) A (w_J7_fill_d0a16_o aI aJ aZ q f v n u) t) A) (own := RJ7) (nm := "fill") (by decide +kernel) rfl rfl rfl (Nat.le_of_ble_eq_true rfl) ?_
  intro p e s m below meth c A ls H locs C hP hD hS hl
  obtain ⟨hx, hb, hml, hown, hts, hK, hA, hlocks, hr, hn, hN⟩ := id C
  have key : ∀ N : Nat, (∀ (i : Nat) (H : Heap) (locs : List Loc) (ls : Array Slot), (n + 1 - i) < N → (i ≤ n) → va_P D vwCl [(q, .inl (aJ, n, (.inr (.inl (fun z => if z < i then v else f z)))))] H → va_D A [(q, .inl (aJ, n, (.inr (.inl (fun z => if z < i then v else f z)))))] → va_S A s.heap H locs → lv_has ls 5 [(0, .ref q), (1, .long v), (3, .int (nI i)), (4, .int (nI n))] → W p l e ({ frames := 0, cells := 0, slots := 0, locals := 0 }) s m ([.ref q, .long v] : List Value).toArray below meth c H locs 0 0 (MQ below (va_Qv (S := Unit) (p_J7_fill_d0a16 f v n) (fun u t => jO D (jT aI aJ aZ) A (w_J7_fill_d0a16_o aI aJ aZ q f v n u) t) A) ([.ref q, .long v] : List Value).toArray s 0 0 A) (F0 m 6 ls [])) := by
    intro N
    induction N with
    | zero => exact fun _ _ _ _ h => absurd h (Nat.not_lt_zero _)
    | succ N ih =>
      have ih6 := ih
      intro i H locs ls hmeas hi hP hD hS hl
      refine lv_iload_n hx hb dJ7_fill_d0a16_6 rfl (lv_at hl 2 rfl) ?_
      refine lv_iload hx hb dJ7_fill_d0a16_7 (lv_at hl 3 rfl) ?_
      refine lv_icmp_ge (tgt := 22) hx hb dJ7_fill_d0a16_9 (by decide) (fun c_9 => ?_) (fun c_9 => ?_)
      · rw [cv_le (by omega) (by omega)] at c_9
        have hP := va_reL (g := fun _ => v) hP 0 rfl (fun kk hkk => by rw [if_pos (by omega)])
        have hD := hD.set (p := 0) (e := .inl (aJ, n, (.inr (.inl (fun _ => v))))) rfl
        have hP : va_P D vwCl [(q, .inl (aJ, n, (.inr (.inl (fun _ => v)))))] H := hP
        have hD : va_D A [(q, .inl (aJ, n, (.inr (.inl (fun _ => v)))))] := hD
        exact j_vret (w1 := fun u => w_J7_fill_d0a16_o aI aJ aZ q f v n u) (post := p_J7_fill_d0a16 f v n) C () hP hD hS trivial dJ7_fill_d0a16_22
      · rw [cv_le (by omega) (by omega)] at c_9
        refine lv_aload_n hx hb dJ7_fill_d0a16_12 rfl (lv_at hl 0 rfl) ?_
        refine lv_iload_n hx hb dJ7_fill_d0a16_13 rfl (lv_at hl 2 rfl) ?_
        refine lv_lload_n hx hb dJ7_fill_d0a16_14 rfl (lv_at hl 1 rfl) ?_
        refine j_last (g := vp_updL (fun z => if z < i then v else f z) i v) hx hb hK hP hD hS 0 1 rfl rfl (by omega) (by omega) (rfl) dJ7_fill_d0a16_15 (fun H locs hP hD hS => ?_)
        have hP : va_P D vwCl [(q, .inl (aJ, n, (.inr (.inl (vp_updL (fun z => if z < i then v else f z) i v)))))] H := hP
        have hD : va_D A [(q, .inl (aJ, n, (.inr (.inl (vp_updL (fun z => if z < i then v else f z) i v)))))] := hD
        refine lv_iinc (v := nI (i + 1)) (lv' := [(3, .int (nI (i + 1))), (0, .ref q), (1, .long v), (4, .int (nI n))]) hx hb dJ7_fill_d0a16_16 hl (k := 2) rfl (inc_nI i 1) (by decide) rfl (fun ls hl => ?_)
        refine lv_goto (tgt := 6) hx hb dJ7_fill_d0a16_19 (by decide) ?_
        have hP := va_reL (g := fun z => if z < (i + 1) then v else f z) hP 0 rfl (fun kk hkk => by (try simp only [vp_updL]); (iterate 3 (all_goals (try split))); all_goals first | rfl | omega | (exfalso; omega))
        have hD := hD.set (p := 0) (e := .inl (aJ, n, (.inr (.inl (fun z => if z < (i + 1) then v else f z))))) rfl
        have hP : va_P D vwCl [(q, .inl (aJ, n, (.inr (.inl (fun z => if z < (i + 1) then v else f z)))))] H := hP
        have hD : va_D A [(q, .inl (aJ, n, (.inr (.inl (fun z => if z < (i + 1) then v else f z)))))] := hD
        have hl := lv_sub (l' := [(0, .ref q), (1, .long v), (3, .int (nI (i + 1))), (4, .int (nI n))]) hl [1, 2, 0, 3] rfl
        exact ih6 (i + 1) _ _ _ (by omega) (show (i + 1) ≤ n from by first | omega | assumption | rfl | (simp_all; done)) hP hD hS hl
  have hl : lv_has ls 5 [(0, .ref q), (1, .long v)] := hl
  refine lv_iconst (v := nI 0) hx hb dJ7_fill_d0a16_0 (by decide) ?_
  refine lv_istore_n (lv' := [(3, .int (nI 0)), (0, .ref q), (1, .long v)]) hx hb dJ7_fill_d0a16_1 rfl hl (by decide) rfl (fun ls hl => ?_)
  refine lv_aload_n hx hb dJ7_fill_d0a16_2 rfl (lv_at hl 1 rfl) ?_
  refine va_alen (v := nI n) hx hb hK hP 0 1 rfl rfl rfl dJ7_fill_d0a16_3 ?_
  refine lv_istore (lv' := [(4, .int (nI n)), (3, .int (nI 0)), (0, .ref q), (1, .long v)]) hx hb dJ7_fill_d0a16_4 hl (by decide) rfl (fun ls hl => ?_)
  have hP := va_reL (g := fun z => if z < 0 then v else f z) hP 0 rfl (fun kk hkk => by (try simp only [vp_updL]); (iterate 3 (all_goals (try split))); all_goals first | rfl | omega | (exfalso; omega))
  have hD := hD.set (p := 0) (e := .inl (aJ, n, (.inr (.inl (fun z => if z < 0 then v else f z))))) rfl
  have hP : va_P D vwCl [(q, .inl (aJ, n, (.inr (.inl (fun z => if z < 0 then v else f z)))))] H := hP
  have hD : va_D A [(q, .inl (aJ, n, (.inr (.inl (fun z => if z < 0 then v else f z)))))] := hD
  have hl := lv_sub (l' := [(0, .ref q), (1, .long v), (3, .int (nI 0)), (4, .int (nI n))]) hl [2, 3, 1, 0] rfl
  exact (key _) 0 _ _ _ (Nat.lt_succ_self _) (show 0 ≤ n from by first | omega | assumption | rfl | (simp_all; done)) hP hD hS hl
abbrev w_X3_spreadWays_o (aI aJ aZ : ClassId) (q w : Nat) (Wv : Nat → Nat) (us : Nat) (f : Nat → Bool) (n : Nat) (uu0 : Unit) : va_W := [(q, .inr (3, [.ref w])), (w, .inl (aJ, 4096, (.inr (.inl (fun kk => lN ((spr Wv us f n) kk))))))]
abbrev p_X3_spreadWays (Wv : Nat → Nat) (us : Nat) (f : Nat → Bool) (n : Nat) (uu0 : Unit) : Prop := True
set_option maxHeartbeats 4000000 in
set_option maxRecDepth 100000 in
theorem c_X3_spreadWays (l : Launch) (D : va_G) (aI aJ aZ : ClassId) (q w : Nat) (Wv : Nat → Nat) (us : Nat) (f : Nat → Bool) (n : Nat) (hn1 : n ≤ 12) (hu : us < 4096) (sz : Nat) : Met l yX3_spreadWays wsX3_spreadWays ({ frames := 1, cells := 0, slots := 0, locals := 21 }) (va_Pc [.ref q, .int (nI us), .int (nI (mk f)), .int (nI n)] (jI D (jT aI aJ aZ) [(q, .inr (3, [.ref w])), (w, .inl (aJ, 4096, (.inr (.inl (fun kk => lN (Wv kk))))))] sz)) (va_Qv (S := Unit) (p_X3_spreadWays Wv us f n) (fun u t => jO D (jT aI aJ aZ) (va_A [(q, .inr (3, [.ref w])), (w, .inl (aJ, 4096, (.inr (.inl (fun kk => lN (Wv kk))))))] sz) (w_X3_spreadWays_o aI aJ aZ q w Wv us f n u) t) (va_A [(q, .inr (3, [.ref w])), (w, .inl (aJ, 4096, (.inr (.inl (fun kk => lN (Wv kk))))))] sz)) 0 0 (va_A [(q, .inr (3, [.ref w])), (w, .inl (aJ, 4096, (.inr (.inl (fun kk => lN (Wv kk))))))] sz) := by
  refine j_of (Qc := fun A => va_Qv (S := Unit) (p_X3_spreadWays Wv us f n) (fun u t => jO D (jT aI aJ aZ) A (w_X3_spreadWays_o aI aJ aZ q w Wv us f n u) t) A) (own := RX3) (nm := "spreadWays") (by decide +kernel) rfl rfl rfl (Nat.le_of_ble_eq_true rfl) ?_
  intro p e s m below meth c A ls H locs C hP hD hS hl
  obtain ⟨hx, hb, hml, hown, hts, hK, hA, hlocks, hr, hn, hN⟩ := id C
  have L_9 := hts (.fieldLink RX3 9 "Phasehall$MatchingCounter" "ways" "[J") (List.mem_of_getElem? (i := 1) rfl)
  have inX3 : ∀ w ∈ wsX30, w ∈ wsX3_spreadWays := fun _ h => List.mem_cons_of_mem _ (List.mem_append_right _ h)
  have key : ∀ N : Nat, (∀ (j : Nat) (H : Heap) (locs : List Loc) (ls : Array Slot), (13 - j) < N → (j ≤ n) → va_P D vwCl [(q, .inr (3, [.ref w])), (w, .inl (aJ, 4096, (.inr (.inl (fun kk => lN ((spr Wv us f j) kk))))))] H → va_D A [(q, .inr (3, [.ref w])), (w, .inl (aJ, 4096, (.inr (.inl (fun kk => lN ((spr Wv us f j) kk))))))] → va_S A s.heap H locs → lv_has ls 5 [(0, .ref q), (1, .int (nI us)), (2, .int (nI (mk f))), (3, .int (nI n)), (4, .int (nI j))] → W p l e ({ frames := 1, cells := 0, slots := 0, locals := 21 }) s m ([.ref q, .int (nI us), .int (nI (mk f)), .int (nI n)] : List Value).toArray below meth c H locs 0 0 (MQ below (va_Qv (S := Unit) (p_X3_spreadWays Wv us f n) (fun u t => jO D (jT aI aJ aZ) A (w_X3_spreadWays_o aI aJ aZ q w Wv us f n u) t) A) ([.ref q, .int (nI us), .int (nI (mk f)), .int (nI n)] : List Value).toArray s 0 0 A) (F0 m 3 ls [])) := by
    intro N
    induction N with
    | zero => exact fun _ _ _ _ h => absurd h (Nat.not_lt_zero _)
    | succ N ih =>
      have ih3 := ih
      intro j H locs ls hmeas hj hP hD hS hl
      refine lv_iload hx hb dX3_spreadWays_3 (lv_at hl 4 rfl) ?_
      refine lv_iload_n hx hb dX3_spreadWays_5 rfl (lv_at hl 3 rfl) ?_
      refine lv_icmp_ge (tgt := 44) hx hb dX3_spreadWays_6 (by decide) (fun c_6 => ?_) (fun c_6 => ?_)
      · rw [cv_le (by omega) (by omega)] at c_6
        have hP := va_reL (g := fun kk => lN ((spr Wv us f n) kk)) hP 1 rfl (fun kk hkk => by rw [show j = n by omega])
        have hD := hD.set (p := 1) (e := .inl (aJ, 4096, (.inr (.inl (fun kk => lN ((spr Wv us f n) kk)))))) rfl
        have hP : va_P D vwCl [(q, .inr (3, [.ref w])), (w, .inl (aJ, 4096, (.inr (.inl (fun kk => lN ((spr Wv us f n) kk))))))] H := hP
        have hD : va_D A [(q, .inr (3, [.ref w])), (w, .inl (aJ, 4096, (.inr (.inl (fun kk => lN ((spr Wv us f n) kk))))))] := hD
        exact j_vret (w1 := fun u => w_X3_spreadWays_o aI aJ aZ q w Wv us f n u) (post := p_X3_spreadWays Wv us f n) C () hP hD hS trivial dX3_spreadWays_44
      · rw [cv_le (by omega) (by omega)] at c_6
        refine lv_iload_n hx hb dX3_spreadWays_9 rfl (lv_at hl 2 rfl) ?_
        refine lv_iload hx hb dX3_spreadWays_10 (lv_at hl 4 rfl) ?_
        refine j_calli (va_runSN (As := [.int (nI (mk f)), .int (nI j)]) (rest := []) C.fix (c_X6_holds l D aI aJ aZ (mk f) j (show (mk f) < 2 ^ 31 from by exact mk_le31 _) (show j < 31 from by first | omega | assumption | rfl | (simp_all; done)) H.size) ⟨(va_cnB 2 hts gX3_spreadWays_X6_holds_n48 rfl rfl rfl (hN (RX3, 48, yX6_holds) (by decide +kernel)) (hts (.initialized RX6) (List.mem_of_getElem? (i := 3) rfl)) (by decide +kernel) ⟨Nat.le_of_ble_eq_true rfl, Nat.le_of_ble_eq_true rfl⟩), (hts (.static yX6_holds) (List.mem_of_getElem? (i := 2) rfl)), trivial⟩ (jPreS hN hK hP hD [] rfl rfl (by decide)) rfl rfl hl.1 rfl (lv_room (Nat.le_of_ble_eq_true rfl)) dX3_spreadWays_12 ⟨Nat.zero_le _, Nat.zero_le _⟩) hA hP hD hS [] [0, 1] (wr := [(q, .inr (3, [.ref w])), (w, .inl (aJ, 4096, (.inr (.inl (fun kk => lN ((spr Wv us f j) kk))))))]) rfl rfl (by decide) (by decide) (fun r_12 u_12 H locs q_12 hP hD hS => ?_)
        obtain ⟨rfl, -⟩ := q_12
        have hP : va_P D vwCl [(q, .inr (3, [.ref w])), (w, .inl (aJ, 4096, (.inr (.inl (fun kk => lN ((spr Wv us f j) kk))))))] H := hP
        have hD : va_D A [(q, .inr (3, [.ref w])), (w, .inl (aJ, 4096, (.inr (.inl (fun kk => lN ((spr Wv us f j) kk))))))] := hD
        refine j_topi (y := (bI (f j))) (by rw [mk_tb' _ (by omega)]) ?_
        refine lv_if_eq (tgt := 38) hx hb dX3_spreadWays_15 (by decide) (fun c_15 => ?_) (fun c_15 => ?_)
        · rw [cv_b0] at c_15
          refine lv_iinc (v := nI (j + 1)) (lv' := [(4, .int (nI (j + 1))), (0, .ref q), (1, .int (nI us)), (2, .int (nI (mk f))), (3, .int (nI n))]) hx hb dX3_spreadWays_38 hl (k := 4) rfl (inc_nI j 1) (by decide) rfl (fun ls hl => ?_)
          refine lv_goto (tgt := 3) hx hb dX3_spreadWays_41 (by decide) ?_
          have hP := va_reL (g := fun kk => lN ((spr Wv us f (j + 1)) kk)) hP 1 rfl (fun kk hkk => by rw [spr, if_neg (by rw [c_15]; decide)])
          have hD := hD.set (p := 1) (e := .inl (aJ, 4096, (.inr (.inl (fun kk => lN ((spr Wv us f (j + 1)) kk)))))) rfl
          have hP : va_P D vwCl [(q, .inr (3, [.ref w])), (w, .inl (aJ, 4096, (.inr (.inl (fun kk => lN ((spr Wv us f (j + 1)) kk))))))] H := hP
          have hD : va_D A [(q, .inr (3, [.ref w])), (w, .inl (aJ, 4096, (.inr (.inl (fun kk => lN ((spr Wv us f (j + 1)) kk))))))] := hD
          have hl := lv_sub (l' := [(0, .ref q), (1, .int (nI us)), (2, .int (nI (mk f))), (3, .int (nI n)), (4, .int (nI (j + 1)))]) hl [1, 2, 3, 4, 0] rfl
          exact ih3 (j + 1) _ _ _ (by omega) (show (j + 1) ≤ n from by first | omega | assumption | rfl | (simp_all; done)) hP hD hS hl
        · rw [cv_b0] at c_15
          rw [cv_nb] at c_15
          refine lv_aload_n hx hb dX3_spreadWays_18 rfl (lv_at hl 0 rfl) ?_
          refine va_get (D := D) (ci := 3) (v := .ref w) (C := RX3) (T := TX3) (N := 1) hx hb hts inX3 hown hK hP 0 rfl rfl 0 (by decide) L_9 (fun _ h9 => h9) rfl dX3_spreadWays_19 ?_
          refine lv_iload_n hx hb dX3_spreadWays_22 rfl (lv_at hl 1 rfl) ?_
          refine lv_iconst (v := nI 1) hx hb dX3_spreadWays_23 (by decide) ?_
          refine lv_iload hx hb dX3_spreadWays_24 (lv_at hl 4 rfl) ?_
          refine lv_ishl hx hb dX3_spreadWays_26 ?_
          refine j_topi (y := (nI (2 ^ j))) (one_shl (by omega)) ?_
          refine lv_ior hx hb dX3_spreadWays_27 ?_
          refine j_topi (y := (nI (us ||| (2 ^ j)))) (fa_or _ _) ?_
          refine lv_dup2_11 hx hb dX3_spreadWays_28 rfl rfl ?_
          refine j_lald (v := lN ((spr Wv us f j) (us ||| (2 ^ j)))) hx hb hK hP 1 1 rfl rfl (by exact or_lt12 hu (by omega)) (by omega) (rfl) dX3_spreadWays_29 ?_
          refine lv_aload_n hx hb dX3_spreadWays_30 rfl (lv_at hl 0 rfl) ?_
          refine va_get (D := D) (ci := 3) (v := .ref w) (C := RX3) (T := TX3) (N := 1) hx hb hts inX3 hown hK hP 0 rfl rfl 0 (by decide) L_9 (fun _ h9 => h9) rfl dX3_spreadWays_31 ?_
          refine lv_iload_n hx hb dX3_spreadWays_34 rfl (lv_at hl 1 rfl) ?_
          refine j_lald (v := lN ((spr Wv us f j) us)) hx hb hK hP 1 1 rfl rfl (by omega) (by omega) (rfl) dX3_spreadWays_35 ?_
          refine lv_ladd hx hb dX3_spreadWays_36 ?_
          refine j_topl (y := (lN ((spr Wv us f j) (us ||| (2 ^ j)) + ((spr Wv us f j) us)))) (lN_add _ _) ?_
          refine j_last (g := fun kk => lN ((va_up (spr Wv us f j) (us ||| (2 ^ j)) ((spr Wv us f j) (us ||| (2 ^ j)) + ((spr Wv us f j) us))) kk)) hx hb hK hP hD hS 1 1 rfl rfl (by exact or_lt12 hu (by omega)) (by omega) (upd_lN _ _ ((spr Wv us f j) (us ||| (2 ^ j)) + ((spr Wv us f j) us))) dX3_spreadWays_37 (fun H locs hP hD hS => ?_)
          have hP : va_P D vwCl [(q, .inr (3, [.ref w])), (w, .inl (aJ, 4096, (.inr (.inl (fun kk => lN ((va_up (spr Wv us f j) (us ||| (2 ^ j)) ((spr Wv us f j) (us ||| (2 ^ j)) + ((spr Wv us f j) us))) kk))))))] H := hP
          have hD : va_D A [(q, .inr (3, [.ref w])), (w, .inl (aJ, 4096, (.inr (.inl (fun kk => lN ((va_up (spr Wv us f j) (us ||| (2 ^ j)) ((spr Wv us f j) (us ||| (2 ^ j)) + ((spr Wv us f j) us))) kk))))))] := hD
          refine lv_iinc (v := nI (j + 1)) (lv' := [(4, .int (nI (j + 1))), (0, .ref q), (1, .int (nI us)), (2, .int (nI (mk f))), (3, .int (nI n))]) hx hb dX3_spreadWays_38 hl (k := 4) rfl (inc_nI j 1) (by decide) rfl (fun ls hl => ?_)
          refine lv_goto (tgt := 3) hx hb dX3_spreadWays_41 (by decide) ?_
          have hP := va_reL (g := fun kk => lN ((spr Wv us f (j + 1)) kk)) hP 1 rfl (fun kk hkk => by rw [spr, if_pos c_15])
          have hD := hD.set (p := 1) (e := .inl (aJ, 4096, (.inr (.inl (fun kk => lN ((spr Wv us f (j + 1)) kk)))))) rfl
          have hP : va_P D vwCl [(q, .inr (3, [.ref w])), (w, .inl (aJ, 4096, (.inr (.inl (fun kk => lN ((spr Wv us f (j + 1)) kk))))))] H := hP
          have hD : va_D A [(q, .inr (3, [.ref w])), (w, .inl (aJ, 4096, (.inr (.inl (fun kk => lN ((spr Wv us f (j + 1)) kk))))))] := hD
          have hl := lv_sub (l' := [(0, .ref q), (1, .int (nI us)), (2, .int (nI (mk f))), (3, .int (nI n)), (4, .int (nI (j + 1)))]) hl [1, 2, 3, 4, 0] rfl
          exact ih3 (j + 1) _ _ _ (by omega) (show (j + 1) ≤ n from by first | omega | assumption | rfl | (simp_all; done)) hP hD hS hl
  have hl : lv_has ls 5 [(0, .ref q), (1, .int (nI us)), (2, .int (nI (mk f))), (3, .int (nI n))] := hl
  refine lv_iconst (v := nI 0) hx hb dX3_spreadWays_0 (by decide) ?_
  refine lv_istore (lv' := [(4, .int (nI 0)), (0, .ref q), (1, .int (nI us)), (2, .int (nI (mk f))), (3, .int (nI n))]) hx hb dX3_spreadWays_1 hl (by decide) rfl (fun ls hl => ?_)
  have hP := va_reL (g := fun kk => lN ((spr Wv us f 0) kk)) hP 1 rfl (fun kk hkk => by rfl)
  have hD := hD.set (p := 1) (e := .inl (aJ, 4096, (.inr (.inl (fun kk => lN ((spr Wv us f 0) kk)))))) rfl
  have hP : va_P D vwCl [(q, .inr (3, [.ref w])), (w, .inl (aJ, 4096, (.inr (.inl (fun kk => lN ((spr Wv us f 0) kk))))))] H := hP
  have hD : va_D A [(q, .inr (3, [.ref w])), (w, .inl (aJ, 4096, (.inr (.inl (fun kk => lN ((spr Wv us f 0) kk))))))] := hD
  have hl := lv_sub (l' := [(0, .ref q), (1, .int (nI us)), (2, .int (nI (mk f))), (3, .int (nI n)), (4, .int (nI 0))]) hl [1, 2, 3, 4, 0] rfl
  exact (key _) 0 _ _ _ (Nat.lt_succ_self _) (show 0 ≤ n from by first | omega | assumption | rfl | (simp_all; done)) hP hD hS hl
abbrev w_X3_addWays_o (aI aJ aZ : ClassId) (q w : Nat) (Wv : Nat → Nat) (f : Nat → Bool) (n : Nat) (uu0 : Unit) : va_W := [(q, .inr (3, [.ref w])), (w, .inl (aJ, 4096, (.inr (.inl (fun kk => lN ((adw Wv f n (2 ^ n)) kk))))))]
abbrev p_X3_addWays (Wv : Nat → Nat) (f : Nat → Bool) (n : Nat) (uu0 : Unit) : Prop := True
set_option maxHeartbeats 4000000 in
set_option maxRecDepth 100000 in
theorem c_X3_addWays (l : Launch) (D : va_G) (aI aJ aZ : ClassId) (q w : Nat) (Wv : Nat → Nat) (f : Nat → Bool) (n : Nat) (hn1 : n ≤ 12) (sz : Nat) : Met l yX3_addWays wsX3_addWays ({ frames := 2, cells := 0, slots := 0, locals := 45 }) (va_Pc [.ref q, .int (nI (mk f)), .int (nI n)] (jI D (jT aI aJ aZ) [(q, .inr (3, [.ref w])), (w, .inl (aJ, 4096, (.inr (.inl (fun kk => lN (Wv kk))))))] sz)) (va_Qv (S := Unit) (p_X3_addWays Wv f n) (fun u t => jO D (jT aI aJ aZ) (va_A [(q, .inr (3, [.ref w])), (w, .inl (aJ, 4096, (.inr (.inl (fun kk => lN (Wv kk))))))] sz) (w_X3_addWays_o aI aJ aZ q w Wv f n u) t) (va_A [(q, .inr (3, [.ref w])), (w, .inl (aJ, 4096, (.inr (.inl (fun kk => lN (Wv kk))))))] sz)) 0 0 (va_A [(q, .inr (3, [.ref w])), (w, .inl (aJ, 4096, (.inr (.inl (fun kk => lN (Wv kk))))))] sz) := by
  refine j_of (Qc := fun A => va_Qv (S := Unit) (p_X3_addWays Wv f n) (fun u t => jO D (jT aI aJ aZ) A (w_X3_addWays_o aI aJ aZ q w Wv f n u) t) A) (own := RX3) (nm := "addWays") (by decide +kernel) rfl rfl rfl (Nat.le_of_ble_eq_true rfl) ?_
  intro p e s m below meth c A ls H locs C hP hD hS hl
  obtain ⟨hx, hb, hml, hown, hts, hK, hA, hlocks, hr, hn, hN⟩ := id C
  have L_9 := hts (.fieldLink RX3 9 "Phasehall$MatchingCounter" "ways" "[J") (List.mem_of_getElem? (i := 1) rfl)
  have inX3 : ∀ w ∈ wsX30, w ∈ wsX3_addWays := fun _ h => List.mem_cons_of_mem _ (List.mem_append_right _ h)
  have hM := pow12 hn1
  have hM0 := Nat.two_pow_pos n
  have key : ∀ N : Nat, (∀ (k : Nat) (H : Heap) (locs : List Loc) (ls : Array Slot), (5000 - k) < N → (k ≤ 2 ^ n) → va_P D vwCl [(q, .inr (3, [.ref w])), (w, .inl (aJ, 4096, (.inr (.inl (fun kk => lN ((adw Wv f n k) kk))))))] H → va_D A [(q, .inr (3, [.ref w])), (w, .inl (aJ, 4096, (.inr (.inl (fun kk => lN ((adw Wv f n k) kk))))))] → va_S A s.heap H locs → lv_has ls 4 [(0, .ref q), (1, .int (nI (mk f))), (2, .int (nI n)), (3, .int (oI (dn (2 ^ n) k)))] → W p l e ({ frames := 2, cells := 0, slots := 0, locals := 45 }) s m ([.ref q, .int (nI (mk f)), .int (nI n)] : List Value).toArray below meth c H locs 0 0 (MQ below (va_Qv (S := Unit) (p_X3_addWays Wv f n) (fun u t => jO D (jT aI aJ aZ) A (w_X3_addWays_o aI aJ aZ q w Wv f n u) t) A) ([.ref q, .int (nI (mk f)), .int (nI n)] : List Value).toArray s 0 0 A) (F0 m 6 ls [])) := by
    intro N
    induction N with
    | zero => exact fun _ _ _ _ h => absurd h (Nat.not_lt_zero _)
    | succ N ih =>
      have ih6 := ih
      intro k H locs ls hmeas hk hP hD hS hl
      refine lv_iload_n hx hb dX3_addWays_6 rfl (lv_at hl 3 rfl) ?_
      refine lv_if_lt (tgt := 38) hx hb dX3_addWays_7 (by decide) (fun c_7 => ?_) (fun c_7 => ?_)
      · rw [cv_o0lt (fun v hv => by have := dn_some hv; omega)] at c_7
        rw [c_7] at hl
        have hl : lv_has ls 4 [(0, .ref q), (1, .int (nI (mk f))), (2, .int (nI n)), (3, .int (oI none))] := hl
        have hP := va_reL (g := fun kk => lN ((adw Wv f n (2 ^ n)) kk)) hP 1 rfl (fun kk hkk => by rw [show k = 2 ^ n from Nat.le_antisymm hk (dn_none c_7)])
        have hD := hD.set (p := 1) (e := .inl (aJ, 4096, (.inr (.inl (fun kk => lN ((adw Wv f n (2 ^ n)) kk)))))) rfl
        have hP : va_P D vwCl [(q, .inr (3, [.ref w])), (w, .inl (aJ, 4096, (.inr (.inl (fun kk => lN ((adw Wv f n (2 ^ n)) kk))))))] H := hP
        have hD : va_D A [(q, .inr (3, [.ref w])), (w, .inl (aJ, 4096, (.inr (.inl (fun kk => lN ((adw Wv f n (2 ^ n)) kk))))))] := hD
        exact j_vret (w1 := fun u => w_X3_addWays_o aI aJ aZ q w Wv f n u) (post := p_X3_addWays Wv f n) C () hP hD hS trivial dX3_addWays_38
      · rw [cv_o0lt (fun v hv => by have := dn_some hv; omega)] at c_7
        obtain ⟨v1, hv1⟩ := some_of c_7
        rw [hv1] at hl
        have hl : lv_has ls 4 [(0, .ref q), (1, .int (nI (mk f))), (2, .int (nI n)), (3, .int (nI v1))] := hl
        obtain ⟨hk1, hve⟩ := dn_some hv1
        refine lv_aload_n hx hb dX3_addWays_10 rfl (lv_at hl 0 rfl) ?_
        refine va_get (D := D) (ci := 3) (v := .ref w) (C := RX3) (T := TX3) (N := 1) hx hb hts inX3 hown hK hP 0 rfl rfl 0 (by decide) L_9 (fun _ h9 => h9) rfl dX3_addWays_11 ?_
        refine lv_iload_n hx hb dX3_addWays_14 rfl (lv_at hl 3 rfl) ?_
        refine j_lald (v := lN ((adw Wv f n k) v1)) hx hb hK hP 1 1 rfl rfl (by omega) (by omega) (rfl) dX3_addWays_15 ?_
        refine lv_lconst (v := lN 0) hx hb dX3_addWays_16 (by decide) ?_
        refine W.lcmp hx hb dX3_addWays_17 ?_
        refine lv_if_eq (tgt := 32) hx hb dX3_addWays_18 (by decide) (fun c_18 => ?_) (fun c_18 => ?_)
        · rw [cv_lc0] at c_18
          refine lv_iinc (v := oI (dn (2 ^ n) (k + 1))) (lv' := [(3, .int (oI (dn (2 ^ n) (k + 1)))), (0, .ref q), (1, .int (nI (mk f))), (2, .int (nI n))]) hx hb dX3_addWays_32 hl (k := 3) rfl (dn_dec hv1) (by decide) rfl (fun ls hl => ?_)
          refine lv_goto (tgt := 6) hx hb dX3_addWays_35 (by decide) ?_
          have hP := va_reL (g := fun kk => lN ((adw Wv f n (k + 1)) kk)) hP 1 rfl (fun kk hkk => by rw [adw, ← hve]; exact (spr_zero c_18 (fun r h => by rw [Bool.and_eq_true] at h; simpa using h.2) n kk).symm)
          have hD := hD.set (p := 1) (e := .inl (aJ, 4096, (.inr (.inl (fun kk => lN ((adw Wv f n (k + 1)) kk)))))) rfl
          have hP : va_P D vwCl [(q, .inr (3, [.ref w])), (w, .inl (aJ, 4096, (.inr (.inl (fun kk => lN ((adw Wv f n (k + 1)) kk))))))] H := hP
          have hD : va_D A [(q, .inr (3, [.ref w])), (w, .inl (aJ, 4096, (.inr (.inl (fun kk => lN ((adw Wv f n (k + 1)) kk))))))] := hD
          have hl := lv_sub (l' := [(0, .ref q), (1, .int (nI (mk f))), (2, .int (nI n)), (3, .int (oI (dn (2 ^ n) (k + 1))))]) hl [1, 2, 3, 0] rfl
          exact ih6 (k + 1) _ _ _ (by omega) (show (k + 1) ≤ 2 ^ n from by first | omega | assumption | rfl | (simp_all; done)) hP hD hS hl
        · rw [cv_lc0] at c_18
          refine lv_aload_n hx hb dX3_addWays_21 rfl (lv_at hl 0 rfl) ?_
          refine lv_iload_n hx hb dX3_addWays_22 rfl (lv_at hl 3 rfl) ?_
          refine lv_iload_n hx hb dX3_addWays_23 rfl (lv_at hl 1 rfl) ?_
          refine lv_iload_n hx hb dX3_addWays_24 rfl (lv_at hl 3 rfl) ?_
          refine lv_iconst (v := oI none) hx hb dX3_addWays_25 (by decide) ?_
          refine lv_ixor hx hb dX3_addWays_26 ?_
          refine j_topi (y := (nI v1 ^^^ (-1))) (rfl) ?_
          refine lv_iand hx hb dX3_addWays_27 ?_
          refine j_topi (y := (nI (mk (fun i => f i && !v1.testBit i)))) (nI_not v1 f) ?_
          refine lv_iload_n hx hb dX3_addWays_28 rfl (lv_at hl 2 rfl) ?_
          refine j_callv (va_runV (As := [.int (nI v1), .int (nI (mk (fun i => f i && !v1.testBit i))), .int (nI n)]) (rest := []) C.fix (c_X3_spreadWays l D aI aJ aZ q w (adw Wv f n k) v1 (fun i => f i && !v1.testBit i) n (show n ≤ 12 from by first | omega | assumption | rfl | (simp_all; done)) (show v1 < 4096 from by first | omega | assumption | rfl | (simp_all; done)) H.size) (cwV 3 hts gX3_addWays_X3_spreadWays rfl rfl rfl (by decide +kernel) ⟨Nat.le_of_ble_eq_true rfl, Nat.le_of_ble_eq_true rfl⟩) (jPreV hN hK hP hD [0, 1] rfl rfl (by decide) (ci := 3) (q0 := 0) rfl rfl) rfl rfl hl.1 rfl (lv_room (Nat.le_of_ble_eq_true rfl)) dX3_addWays_29 ⟨Nat.zero_le _, Nat.zero_le _⟩) hA hP hD hS [0, 1] [] (wr := []) rfl rfl (by decide) (by decide) (fun u_29 H locs q_29 hP hD hS => ?_)
          have hP : va_P D vwCl [(q, .inr (3, [.ref w])), (w, .inl (aJ, 4096, (.inr (.inl (fun kk => lN ((spr (adw Wv f n k) v1 (fun i => f i && !v1.testBit i) n) kk))))))] H := hP
          have hD : va_D A [(q, .inr (3, [.ref w])), (w, .inl (aJ, 4096, (.inr (.inl (fun kk => lN ((spr (adw Wv f n k) v1 (fun i => f i && !v1.testBit i) n) kk))))))] := hD
          refine lv_iinc (v := oI (dn (2 ^ n) (k + 1))) (lv' := [(3, .int (oI (dn (2 ^ n) (k + 1)))), (0, .ref q), (1, .int (nI (mk f))), (2, .int (nI n))]) hx hb dX3_addWays_32 hl (k := 3) rfl (dn_dec hv1) (by decide) rfl (fun ls hl => ?_)
          refine lv_goto (tgt := 6) hx hb dX3_addWays_35 (by decide) ?_
          have hP := va_reL (g := fun kk => lN ((adw Wv f n (k + 1)) kk)) hP 1 rfl (fun kk hkk => by rw [adw, ← hve])
          have hD := hD.set (p := 1) (e := .inl (aJ, 4096, (.inr (.inl (fun kk => lN ((adw Wv f n (k + 1)) kk)))))) rfl
          have hP : va_P D vwCl [(q, .inr (3, [.ref w])), (w, .inl (aJ, 4096, (.inr (.inl (fun kk => lN ((adw Wv f n (k + 1)) kk))))))] H := hP
          have hD : va_D A [(q, .inr (3, [.ref w])), (w, .inl (aJ, 4096, (.inr (.inl (fun kk => lN ((adw Wv f n (k + 1)) kk))))))] := hD
          have hl := lv_sub (l' := [(0, .ref q), (1, .int (nI (mk f))), (2, .int (nI n)), (3, .int (oI (dn (2 ^ n) (k + 1))))]) hl [1, 2, 3, 0] rfl
          exact ih6 (k + 1) _ _ _ (by omega) (show (k + 1) ≤ 2 ^ n from by first | omega | assumption | rfl | (simp_all; done)) hP hD hS hl
  have hl : lv_has ls 4 [(0, .ref q), (1, .int (nI (mk f))), (2, .int (nI n))] := hl
  refine lv_iconst (v := nI 1) hx hb dX3_addWays_0 (by decide) ?_
  refine lv_iload_n hx hb dX3_addWays_1 rfl (lv_at hl 2 rfl) ?_
  refine lv_ishl hx hb dX3_addWays_2 ?_
  refine j_topi (y := (nI (2 ^ n))) (one_shl (by omega)) ?_
  refine lv_iconst (v := nI 1) hx hb dX3_addWays_3 (by decide) ?_
  refine lv_isub hx hb dX3_addWays_4 ?_
  refine j_topi (y := (nI ((2 ^ n) - 1))) (pk_sub (by exact Nat.two_pow_pos n)) ?_
  refine lv_istore_n (lv' := [(3, .int (nI ((2 ^ n) - 1))), (0, .ref q), (1, .int (nI (mk f))), (2, .int (nI n))]) hx hb dX3_addWays_5 rfl hl (by decide) rfl (fun ls hl => ?_)
  have hP := va_reL (g := fun kk => lN ((adw Wv f n 0) kk)) hP 1 rfl (fun kk hkk => by rfl)
  have hD := hD.set (p := 1) (e := .inl (aJ, 4096, (.inr (.inl (fun kk => lN ((adw Wv f n 0) kk)))))) rfl
  have hP : va_P D vwCl [(q, .inr (3, [.ref w])), (w, .inl (aJ, 4096, (.inr (.inl (fun kk => lN ((adw Wv f n 0) kk))))))] H := hP
  have hD : va_D A [(q, .inr (3, [.ref w])), (w, .inl (aJ, 4096, (.inr (.inl (fun kk => lN ((adw Wv f n 0) kk))))))] := hD
  have hl := lv_sub (l' := [(0, .ref q), (1, .int (nI (mk f))), (2, .int (nI n)), (3, .int (nI ((2 ^ n) - 1)))]) hl [1, 2, 3, 0] rfl
  have hl := lv_re hl 3 rfl (show (.int (nI ((2 ^ n) - 1)) : Value) = .int (oI (dn (2 ^ n) 0)) from congrArg _ (by exact dn_0 (Nat.two_pow_pos n)))
  have hl : lv_has ls 4 [(0, .ref q), (1, .int (nI (mk f))), (2, .int (nI n)), (3, .int (oI (dn (2 ^ n) 0)))] := hl
  exact (key _) 0 _ _ _ (Nat.lt_succ_self _) (show 0 ≤ 2 ^ n from by first | omega | assumption | rfl | (simp_all; done)) hP hD hS hl
abbrev w_X3_count_o (aI aJ aZ : ClassId) (q w g ga gb : Nat) (E : Nat → Nat → Bool) (nl : Nat) (nr : Nat) (ne : Nat) (pr : Nat) (W0 : Nat → Int64) (uu0 : Unit) : va_W := [(q, .inr (3, [.ref w])), (w, .inl (aJ, 4096, (.inr (.inl (fun kk => lN ((wys E nr nl) kk)))))), (g, .inr (1, [.ref ga, .ref gb, .int (nI nl), .int (nI nr), .int (nI ne)])), (ga, .inl (aI, 12, (.inl (fun kk => nI (mk (E kk))))))]
abbrev p_X3_count (E : Nat → Nat → Bool) (nl : Nat) (nr : Nat) (ne : Nat) (pr : Nat) (W0 : Nat → Int64) (rr0 : Int64) (uu0 : Unit) : Prop := rr0 = lN (swt (wys E nr nl) pr (2 ^ nr)) ∧ (True)
set_option maxHeartbeats 4000000 in
set_option maxRecDepth 100000 in
theorem c_X3_count (l : Launch) (D : va_G) (aI aJ aZ : ClassId) (q w g ga gb : Nat) (E : Nat → Nat → Bool) (nl : Nat) (nr : Nat) (ne : Nat) (pr : Nat) (W0 : Nat → Int64) (hnl : nl ≤ 12) (hnr : nr ≤ 12) (hpr : pr ≤ 12) (sz : Nat) : Met l yX3_count wsX3_count ({ frames := 3, cells := 0, slots := 0, locals := 68 }) (va_Pc [.ref q, .ref g, .int (nI pr)] (jI D (jT aI aJ aZ) [(q, .inr (3, [.ref w])), (w, .inl (aJ, 4096, (.inr (.inl (W0))))), (g, .inr (1, [.ref ga, .ref gb, .int (nI nl), .int (nI nr), .int (nI ne)])), (ga, .inl (aI, 12, (.inl (fun kk => nI (mk (E kk))))))] sz)) (va_Ql (S := Unit) (p_X3_count E nl nr ne pr W0) (fun u t => jO D (jT aI aJ aZ) (va_A [(q, .inr (3, [.ref w])), (w, .inl (aJ, 4096, (.inr (.inl (W0))))), (g, .inr (1, [.ref ga, .ref gb, .int (nI nl), .int (nI nr), .int (nI ne)])), (ga, .inl (aI, 12, (.inl (fun kk => nI (mk (E kk))))))] sz) (w_X3_count_o aI aJ aZ q w g ga gb E nl nr ne pr W0 u) t) (va_A [(q, .inr (3, [.ref w])), (w, .inl (aJ, 4096, (.inr (.inl (W0))))), (g, .inr (1, [.ref ga, .ref gb, .int (nI nl), .int (nI nr), .int (nI ne)])), (ga, .inl (aI, 12, (.inl (fun kk => nI (mk (E kk))))))] sz)) 0 0 (va_A [(q, .inr (3, [.ref w])), (w, .inl (aJ, 4096, (.inr (.inl (W0))))), (g, .inr (1, [.ref ga, .ref gb, .int (nI nl), .int (nI nr), .int (nI ne)])), (ga, .inl (aI, 12, (.inl (fun kk => nI (mk (E kk))))))] sz) := by
  refine j_of (Qc := fun A => va_Ql (S := Unit) (p_X3_count E nl nr ne pr W0) (fun u t => jO D (jT aI aJ aZ) A (w_X3_count_o aI aJ aZ q w g ga gb E nl nr ne pr W0 u) t) A) (own := RX3) (nm := "count") (by decide +kernel) rfl rfl rfl (Nat.le_of_ble_eq_true rfl) ?_
  intro p e s m below meth c A ls H locs C hP hD hS hl
  obtain ⟨hx, hb, hml, hown, hts, hK, hA, hlocks, hr, hn, hN⟩ := id C
  have L_9 := hts (.fieldLink RX3 9 "Phasehall$MatchingCounter" "ways" "[J") (List.mem_of_getElem? (i := 1) rfl)
  have L_21 := hts (.fieldLink RX3 21 "Phasehall$Graph" "leftCount" "I") (List.mem_of_getElem? (i := 2) rfl)
  have L_27 := hts (.fieldLink RX3 27 "Phasehall$Graph" "rightsOf" "[I") (List.mem_of_getElem? (i := 3) rfl)
  have L_31 := hts (.fieldLink RX3 31 "Phasehall$Graph" "rightCount" "I") (List.mem_of_getElem? (i := 4) rfl)
  have inX1 : ∀ w ∈ wsX10, w ∈ wsX3_count := fun _ h => List.mem_cons_of_mem _ (List.mem_append_right _ h)
  have inX3 : ∀ w ∈ wsX30, w ∈ wsX3_count := fun _ h => List.mem_cons_of_mem _ (List.mem_append_left _ (List.mem_append_right _ h))
  have hM := pow12 hnr
  have key : ∀ N : Nat, (∀ (i : Nat) (H : Heap) (locs : List Loc) (ls : Array Slot), (10000 - i) < N → (i ≤ nl) → va_P D vwCl [(q, .inr (3, [.ref w])), (w, .inl (aJ, 4096, (.inr (.inl (fun kk => lN ((wys E nr i) kk)))))), (g, .inr (1, [.ref ga, .ref gb, .int (nI nl), .int (nI nr), .int (nI ne)])), (ga, .inl (aI, 12, (.inl (fun kk => nI (mk (E kk))))))] H → va_D A [(q, .inr (3, [.ref w])), (w, .inl (aJ, 4096, (.inr (.inl (fun kk => lN ((wys E nr i) kk)))))), (g, .inr (1, [.ref ga, .ref gb, .int (nI nl), .int (nI nr), .int (nI ne)])), (ga, .inl (aI, 12, (.inl (fun kk => nI (mk (E kk))))))] → va_S A s.heap H locs → lv_has ls 6 [(0, .ref q), (1, .ref g), (2, .int (nI pr)), (3, .int (nI i))] → W p l e ({ frames := 3, cells := 0, slots := 0, locals := 68 }) s m ([.ref q, .ref g, .int (nI pr)] : List Value).toArray below meth c H locs 0 0 (MQ below (va_Ql (S := Unit) (p_X3_count E nl nr ne pr W0) (fun u t => jO D (jT aI aJ aZ) A (w_X3_count_o aI aJ aZ q w g ga gb E nl nr ne pr W0 u) t) A) ([.ref q, .ref g, .int (nI pr)] : List Value).toArray s 0 0 A) (F0 m 17 ls [])) ∧ (∀ (us : Nat) (H : Heap) (locs : List Loc) (ls : Array Slot), (5000 - us) < N → (us ≤ 2 ^ nr) → va_P D vwCl [(q, .inr (3, [.ref w])), (w, .inl (aJ, 4096, (.inr (.inl (fun kk => lN ((wys E nr nl) kk)))))), (g, .inr (1, [.ref ga, .ref gb, .int (nI nl), .int (nI nr), .int (nI ne)])), (ga, .inl (aI, 12, (.inl (fun kk => nI (mk (E kk))))))] H → va_D A [(q, .inr (3, [.ref w])), (w, .inl (aJ, 4096, (.inr (.inl (fun kk => lN ((wys E nr nl) kk)))))), (g, .inr (1, [.ref ga, .ref gb, .int (nI nl), .int (nI nr), .int (nI ne)])), (ga, .inl (aI, 12, (.inl (fun kk => nI (mk (E kk))))))] → va_S A s.heap H locs → lv_has ls 6 [(0, .ref q), (1, .ref g), (2, .int (nI pr)), (3, .long (lN (swt (wys E nr nl) pr us))), (5, .int (nI us))] → W p l e ({ frames := 3, cells := 0, slots := 0, locals := 68 }) s m ([.ref q, .ref g, .int (nI pr)] : List Value).toArray below meth c H locs 0 0 (MQ below (va_Ql (S := Unit) (p_X3_count E nl nr ne pr W0) (fun u t => jO D (jT aI aJ aZ) A (w_X3_count_o aI aJ aZ q w g ga gb E nl nr ne pr W0 u) t) A) ([.ref q, .ref g, .int (nI pr)] : List Value).toArray s 0 0 A) (F0 m 59 ls [])) := by
    intro N
    induction N with
    | zero => exact ⟨fun _ _ _ _ h => absurd h (Nat.not_lt_zero _), fun _ _ _ _ h => absurd h (Nat.not_lt_zero _)⟩
    | succ N ih =>
      obtain ⟨ih17, ih59⟩ := ih
      refine ⟨?_, ?_⟩
      · intro i H locs ls hmeas hi hP hD hS hl
        refine lv_iload_n hx hb dX3_count_17 rfl (lv_at hl 3 rfl) ?_
        refine lv_aload_n hx hb dX3_count_18 rfl (lv_at hl 1 rfl) ?_
        refine va_get (D := D) (ci := 1) (v := .int (nI nl)) (C := RX1) (T := TX1) (N := 5) hx hb hts inX1 hown hK hP 2 rfl rfl 2 (by decide) L_21 (fun _ h9 => h9) rfl dX3_count_19 ?_
        refine lv_icmp_ge (tgt := 54) hx hb dX3_count_22 (by decide) (fun c_22 => ?_) (fun c_22 => ?_)
        · rw [cv_le (by omega) (by omega)] at c_22
          refine lv_lconst (v := lN 0) hx hb dX3_count_54 (by decide) ?_
          refine lv_lstore_n (lv' := [(3, .long (lN 0)), (0, .ref q), (1, .ref g), (2, .int (nI pr))]) hx hb dX3_count_55 rfl hl (by decide) rfl (fun ls hl => ?_)
          refine lv_iconst (v := nI 0) hx hb dX3_count_56 (by decide) ?_
          refine lv_istore (lv' := [(5, .int (nI 0)), (3, .long (lN 0)), (0, .ref q), (1, .ref g), (2, .int (nI pr))]) hx hb dX3_count_57 hl (by decide) rfl (fun ls hl => ?_)
          have hP := va_reL (g := fun kk => lN ((wys E nr nl) kk)) hP 1 rfl (fun kk hkk => by rw [show i = nl by omega])
          have hD := hD.set (p := 1) (e := .inl (aJ, 4096, (.inr (.inl (fun kk => lN ((wys E nr nl) kk)))))) rfl
          have hP : va_P D vwCl [(q, .inr (3, [.ref w])), (w, .inl (aJ, 4096, (.inr (.inl (fun kk => lN ((wys E nr nl) kk)))))), (g, .inr (1, [.ref ga, .ref gb, .int (nI nl), .int (nI nr), .int (nI ne)])), (ga, .inl (aI, 12, (.inl (fun kk => nI (mk (E kk))))))] H := hP
          have hD : va_D A [(q, .inr (3, [.ref w])), (w, .inl (aJ, 4096, (.inr (.inl (fun kk => lN ((wys E nr nl) kk)))))), (g, .inr (1, [.ref ga, .ref gb, .int (nI nl), .int (nI nr), .int (nI ne)])), (ga, .inl (aI, 12, (.inl (fun kk => nI (mk (E kk))))))] := hD
          have hl := lv_sub (l' := [(0, .ref q), (1, .ref g), (2, .int (nI pr)), (3, .long (lN 0)), (5, .int (nI 0))]) hl [2, 3, 4, 1, 0] rfl
          have hl := lv_re hl 3 rfl (show (.long (lN 0) : Value) = .long (lN (swt (wys E nr nl) pr 0)) from congrArg _ (by rfl))
          have hl : lv_has ls 6 [(0, .ref q), (1, .ref g), (2, .int (nI pr)), (3, .long (lN (swt (wys E nr nl) pr 0))), (5, .int (nI 0))] := hl
          exact ih59 0 _ _ _ (by omega) (show 0 ≤ 2 ^ nr from by first | omega | assumption | rfl | (simp_all; done)) hP hD hS hl
        · rw [cv_le (by omega) (by omega)] at c_22
          refine lv_aload_n hx hb dX3_count_25 rfl (lv_at hl 1 rfl) ?_
          refine va_get (D := D) (ci := 1) (v := .ref ga) (C := RX1) (T := TX1) (N := 5) hx hb hts inX1 hown hK hP 2 rfl rfl 0 (by decide) L_27 (fun _ h9 => h9) rfl dX3_count_26 ?_
          refine lv_iload_n hx hb dX3_count_29 rfl (lv_at hl 3 rfl) ?_
          refine j_iald (v := nI (mk (E i))) hx hb hK hP 3 0 rfl rfl (by omega) (by omega) (rfl) dX3_count_30 ?_
          refine lv_if_eq (tgt := 48) hx hb dX3_count_31 (by decide) (fun c_31 => ?_) (fun c_31 => ?_)
          · rw [cv_eq0 (mk_le31 _)] at c_31
            refine lv_iinc (v := nI (i + 1)) (lv' := [(3, .int (nI (i + 1))), (0, .ref q), (1, .ref g), (2, .int (nI pr))]) hx hb dX3_count_48 hl (k := 3) rfl (inc_nI i 1) (by decide) rfl (fun ls hl => ?_)
            refine lv_goto (tgt := 17) hx hb dX3_count_51 (by decide) ?_
            have hP := va_reL (g := fun kk => lN ((wys E nr (i + 1)) kk)) hP 1 rfl (fun kk hkk => by show lN (wys E nr i kk) = lN (adw (wys E nr i) (E i) nr (2 ^ nr) kk); rw [adw_none (fun r hr => mk_eq0.mp c_31 r (by omega))])
            have hD := hD.set (p := 1) (e := .inl (aJ, 4096, (.inr (.inl (fun kk => lN ((wys E nr (i + 1)) kk)))))) rfl
            have hP : va_P D vwCl [(q, .inr (3, [.ref w])), (w, .inl (aJ, 4096, (.inr (.inl (fun kk => lN ((wys E nr (i + 1)) kk)))))), (g, .inr (1, [.ref ga, .ref gb, .int (nI nl), .int (nI nr), .int (nI ne)])), (ga, .inl (aI, 12, (.inl (fun kk => nI (mk (E kk))))))] H := hP
            have hD : va_D A [(q, .inr (3, [.ref w])), (w, .inl (aJ, 4096, (.inr (.inl (fun kk => lN ((wys E nr (i + 1)) kk)))))), (g, .inr (1, [.ref ga, .ref gb, .int (nI nl), .int (nI nr), .int (nI ne)])), (ga, .inl (aI, 12, (.inl (fun kk => nI (mk (E kk))))))] := hD
            have hl := lv_sub (l' := [(0, .ref q), (1, .ref g), (2, .int (nI pr)), (3, .int (nI (i + 1)))]) hl [1, 2, 3, 0] rfl
            exact ih17 (i + 1) _ _ _ (by omega) (show (i + 1) ≤ nl from by first | omega | assumption | rfl | (simp_all; done)) hP hD hS hl
          · rw [cv_eq0 (mk_le31 _)] at c_31
            refine lv_aload_n hx hb dX3_count_34 rfl (lv_at hl 0 rfl) ?_
            refine lv_aload_n hx hb dX3_count_35 rfl (lv_at hl 1 rfl) ?_
            refine va_get (D := D) (ci := 1) (v := .ref ga) (C := RX1) (T := TX1) (N := 5) hx hb hts inX1 hown hK hP 2 rfl rfl 0 (by decide) L_27 (fun _ h9 => h9) rfl dX3_count_36 ?_
            refine lv_iload_n hx hb dX3_count_39 rfl (lv_at hl 3 rfl) ?_
            refine j_iald (v := nI (mk (E i))) hx hb hK hP 3 0 rfl rfl (by omega) (by omega) (rfl) dX3_count_40 ?_
            refine lv_aload_n hx hb dX3_count_41 rfl (lv_at hl 1 rfl) ?_
            refine va_get (D := D) (ci := 1) (v := .int (nI nr)) (C := RX1) (T := TX1) (N := 5) hx hb hts inX1 hown hK hP 2 rfl rfl 3 (by decide) L_31 (fun _ h9 => h9) rfl dX3_count_42 ?_
            refine j_callv (va_runV (As := [.int (nI (mk (E i))), .int (nI nr)]) (rest := []) C.fix (c_X3_addWays l D aI aJ aZ q w (wys E nr i) (E i) nr (show nr ≤ 12 from by exact hnr) H.size) (cwV 2 hts gX3_count_X3_addWays rfl rfl rfl (by decide +kernel) ⟨Nat.le_of_ble_eq_true rfl, Nat.le_of_ble_eq_true rfl⟩) (jPreV hN hK hP hD [0, 1] rfl rfl (by decide) (ci := 3) (q0 := 0) rfl rfl) rfl rfl hl.1 rfl (lv_room (Nat.le_of_ble_eq_true rfl)) dX3_count_45 ⟨Nat.zero_le _, Nat.zero_le _⟩) hA hP hD hS [0, 1] [2, 3] (wr := [(g, .inr (1, [.ref ga, .ref gb, .int (nI nl), .int (nI nr), .int (nI ne)])), (ga, .inl (aI, 12, (.inl (fun kk => nI (mk (E kk))))))]) rfl rfl (by decide) (by decide) (fun u_45 H locs q_45 hP hD hS => ?_)
            have hP : va_P D vwCl [(g, .inr (1, [.ref ga, .ref gb, .int (nI nl), .int (nI nr), .int (nI ne)])), (ga, .inl (aI, 12, (.inl (fun kk => nI (mk (E kk)))))), (q, .inr (3, [.ref w])), (w, .inl (aJ, 4096, (.inr (.inl (fun kk => lN ((adw (wys E nr i) (E i) nr (2 ^ nr)) kk))))))] H := hP
            have hD : va_D A [(g, .inr (1, [.ref ga, .ref gb, .int (nI nl), .int (nI nr), .int (nI ne)])), (ga, .inl (aI, 12, (.inl (fun kk => nI (mk (E kk)))))), (q, .inr (3, [.ref w])), (w, .inl (aJ, 4096, (.inr (.inl (fun kk => lN ((adw (wys E nr i) (E i) nr (2 ^ nr)) kk))))))] := hD
            refine lv_iinc (v := nI (i + 1)) (lv' := [(3, .int (nI (i + 1))), (0, .ref q), (1, .ref g), (2, .int (nI pr))]) hx hb dX3_count_48 hl (k := 3) rfl (inc_nI i 1) (by decide) rfl (fun ls hl => ?_)
            refine lv_goto (tgt := 17) hx hb dX3_count_51 (by decide) ?_
            have hP := hP.sub (ws' := [(q, .inr (3, [.ref w])), (w, .inl (aJ, 4096, (.inr (.inl (fun kk => lN ((adw (wys E nr i) (E i) nr (2 ^ nr)) kk)))))), (g, .inr (1, [.ref ga, .ref gb, .int (nI nl), .int (nI nr), .int (nI ne)])), (ga, .inl (aI, 12, (.inl (fun kk => nI (mk (E kk))))))]) [2, 3, 0, 1] rfl
            have hD := hD.sub (ws' := [(q, .inr (3, [.ref w])), (w, .inl (aJ, 4096, (.inr (.inl (fun kk => lN ((adw (wys E nr i) (E i) nr (2 ^ nr)) kk)))))), (g, .inr (1, [.ref ga, .ref gb, .int (nI nl), .int (nI nr), .int (nI ne)])), (ga, .inl (aI, 12, (.inl (fun kk => nI (mk (E kk))))))]) [2, 3, 0, 1] (by decide) rfl
            have hP := va_reL (g := fun kk => lN ((wys E nr (i + 1)) kk)) hP 1 rfl (fun kk hkk => by rfl)
            have hD := hD.set (p := 1) (e := .inl (aJ, 4096, (.inr (.inl (fun kk => lN ((wys E nr (i + 1)) kk)))))) rfl
            have hP : va_P D vwCl [(q, .inr (3, [.ref w])), (w, .inl (aJ, 4096, (.inr (.inl (fun kk => lN ((wys E nr (i + 1)) kk)))))), (g, .inr (1, [.ref ga, .ref gb, .int (nI nl), .int (nI nr), .int (nI ne)])), (ga, .inl (aI, 12, (.inl (fun kk => nI (mk (E kk))))))] H := hP
            have hD : va_D A [(q, .inr (3, [.ref w])), (w, .inl (aJ, 4096, (.inr (.inl (fun kk => lN ((wys E nr (i + 1)) kk)))))), (g, .inr (1, [.ref ga, .ref gb, .int (nI nl), .int (nI nr), .int (nI ne)])), (ga, .inl (aI, 12, (.inl (fun kk => nI (mk (E kk))))))] := hD
            have hl := lv_sub (l' := [(0, .ref q), (1, .ref g), (2, .int (nI pr)), (3, .int (nI (i + 1)))]) hl [1, 2, 3, 0] rfl
            exact ih17 (i + 1) _ _ _ (by omega) (show (i + 1) ≤ nl from by first | omega | assumption | rfl | (simp_all; done)) hP hD hS hl
      · intro us H locs ls hmeas hu hP hD hS hl
        refine lv_iload hx hb dX3_count_59 (lv_at hl 4 rfl) ?_
        refine lv_iconst (v := nI 1) hx hb dX3_count_61 (by decide) ?_
        refine lv_aload_n hx hb dX3_count_62 rfl (lv_at hl 1 rfl) ?_
        refine va_get (D := D) (ci := 1) (v := .int (nI nr)) (C := RX1) (T := TX1) (N := 5) hx hb hts inX1 hown hK hP 2 rfl rfl 3 (by decide) L_31 (fun _ h9 => h9) rfl dX3_count_63 ?_
        refine lv_ishl hx hb dX3_count_66 ?_
        refine j_topi (y := (nI (2 ^ nr))) (one_shl (by omega)) ?_
        refine lv_icmp_ge (tgt := 95) hx hb dX3_count_67 (by decide) (fun c_67 => ?_) (fun c_67 => ?_)
        · rw [cv_le (by omega) (by omega)] at c_67
          refine lv_lload_n hx hb dX3_count_95 rfl (lv_at hl 3 rfl) ?_
          have eV : lN (swt (wys E nr nl) pr us) = lN (swt (wys E nr nl) pr (2 ^ nr)) := by rw [show us = 2 ^ nr by omega]
          exact j_lret (w1 := fun u => w_X3_count_o aI aJ aZ q w g ga gb E nl nr ne pr W0 u) (post := p_X3_count E nl nr ne pr W0) C () hP hD hS ⟨eV, trivial⟩ dX3_count_96
        · rw [cv_le (by omega) (by omega)] at c_67
          refine lv_iload hx hb dX3_count_70 (lv_at hl 4 rfl) ?_
          refine j_calli (va_runS (As := [.int (nI us)]) (rest := []) C.fix (c_J6_bitCount_0f7a4 l D aI aJ aZ us (show us < 4096 from by first | omega | assumption | rfl | (simp_all; done)) H.size) (va_cwS 1 hts gX3_count_J6_bitCount_0f7a4 rfl rfl rfl (by decide +kernel) ⟨Nat.le_of_ble_eq_true rfl, Nat.le_of_ble_eq_true rfl⟩) (jPreS hN hK hP hD [] rfl rfl (by decide)) rfl rfl hl.1 rfl (lv_room (Nat.le_of_ble_eq_true rfl)) dX3_count_72 ⟨Nat.zero_le _, Nat.zero_le _⟩) hA hP hD hS [] [0, 1, 2, 3] (wr := [(q, .inr (3, [.ref w])), (w, .inl (aJ, 4096, (.inr (.inl (fun kk => lN ((wys E nr nl) kk)))))), (g, .inr (1, [.ref ga, .ref gb, .int (nI nl), .int (nI nr), .int (nI ne)])), (ga, .inl (aI, 12, (.inl (fun kk => nI (mk (E kk))))))]) rfl rfl (by decide) (by decide) (fun r_72 u_72 H locs q_72 hP hD hS => ?_)
          obtain ⟨rfl, -⟩ := q_72
          have hP : va_P D vwCl [(q, .inr (3, [.ref w])), (w, .inl (aJ, 4096, (.inr (.inl (fun kk => lN ((wys E nr nl) kk)))))), (g, .inr (1, [.ref ga, .ref gb, .int (nI nl), .int (nI nr), .int (nI ne)])), (ga, .inl (aI, 12, (.inl (fun kk => nI (mk (E kk))))))] H := hP
          have hD : va_D A [(q, .inr (3, [.ref w])), (w, .inl (aJ, 4096, (.inr (.inl (fun kk => lN ((wys E nr nl) kk)))))), (g, .inr (1, [.ref ga, .ref gb, .int (nI nl), .int (nI nr), .int (nI ne)])), (ga, .inl (aI, 12, (.inl (fun kk => nI (mk (E kk))))))] := hD
          refine lv_iload_n hx hb dX3_count_75 rfl (lv_at hl 2 rfl) ?_
          refine lv_icmp_ne (tgt := 89) hx hb dX3_count_76 (by decide) (fun c_76 => ?_) (fun c_76 => ?_)
          · rw [cv_eq (by have := cnt_le (fun z => us.testBit z) 12; omega) (by have := cnt_le (fun z => us.testBit z) 12; omega)] at c_76
            refine lv_iinc (v := nI (us + 1)) (lv' := [(5, .int (nI (us + 1))), (0, .ref q), (1, .ref g), (2, .int (nI pr)), (3, .long (lN (swt (wys E nr nl) pr us)))]) hx hb dX3_count_89 hl (k := 4) rfl (inc_nI us 1) (by decide) rfl (fun ls hl => ?_)
            refine lv_goto (tgt := 59) hx hb dX3_count_92 (by decide) ?_
            have hl := lv_sub (l' := [(0, .ref q), (1, .ref g), (2, .int (nI pr)), (3, .long (lN (swt (wys E nr nl) pr us))), (5, .int (nI (us + 1)))]) hl [1, 2, 3, 4, 0] rfl
            have hl := lv_re hl 3 rfl (show (.long (lN (swt (wys E nr nl) pr us)) : Value) = .long (lN (swt (wys E nr nl) pr (us + 1))) from congrArg _ (by rw [swt, if_neg c_76]; rfl))
            have hl : lv_has ls 6 [(0, .ref q), (1, .ref g), (2, .int (nI pr)), (3, .long (lN (swt (wys E nr nl) pr (us + 1)))), (5, .int (nI (us + 1)))] := hl
            exact ih59 (us + 1) _ _ _ (by omega) (show (us + 1) ≤ 2 ^ nr from by first | omega | assumption | rfl | (simp_all; done)) hP hD hS hl
          · rw [cv_eq (by have := cnt_le (fun z => us.testBit z) 12; omega) (by have := cnt_le (fun z => us.testBit z) 12; omega)] at c_76
            refine lv_lload_n hx hb dX3_count_79 rfl (lv_at hl 3 rfl) ?_
            refine lv_aload_n hx hb dX3_count_80 rfl (lv_at hl 0 rfl) ?_
            refine va_get (D := D) (ci := 3) (v := .ref w) (C := RX3) (T := TX3) (N := 1) hx hb hts inX3 hown hK hP 0 rfl rfl 0 (by decide) L_9 (fun _ h9 => h9) rfl dX3_count_81 ?_
            refine lv_iload hx hb dX3_count_84 (lv_at hl 4 rfl) ?_
            refine j_lald (v := lN ((wys E nr nl) us)) hx hb hK hP 1 1 rfl rfl (by omega) (by omega) (rfl) dX3_count_86 ?_
            refine lv_ladd hx hb dX3_count_87 ?_
            refine j_topl (y := (lN (swt (wys E nr nl) pr us + ((wys E nr nl) us)))) (lN_add _ _) ?_
            refine lv_lstore_n (lv' := [(3, .long (lN (swt (wys E nr nl) pr us + ((wys E nr nl) us)))), (0, .ref q), (1, .ref g), (2, .int (nI pr)), (5, .int (nI us))]) hx hb dX3_count_88 rfl hl (by decide) rfl (fun ls hl => ?_)
            refine lv_iinc (v := nI (us + 1)) (lv' := [(5, .int (nI (us + 1))), (3, .long (lN (swt (wys E nr nl) pr us + ((wys E nr nl) us)))), (0, .ref q), (1, .ref g), (2, .int (nI pr))]) hx hb dX3_count_89 hl (k := 4) rfl (inc_nI us 1) (by decide) rfl (fun ls hl => ?_)
            refine lv_goto (tgt := 59) hx hb dX3_count_92 (by decide) ?_
            have hl := lv_sub (l' := [(0, .ref q), (1, .ref g), (2, .int (nI pr)), (3, .long (lN (swt (wys E nr nl) pr us + ((wys E nr nl) us)))), (5, .int (nI (us + 1)))]) hl [2, 3, 4, 1, 0] rfl
            have hl := lv_re hl 3 rfl (show (.long (lN (swt (wys E nr nl) pr us + ((wys E nr nl) us))) : Value) = .long (lN (swt (wys E nr nl) pr (us + 1))) from congrArg _ (by rw [swt, if_pos c_76]))
            have hl : lv_has ls 6 [(0, .ref q), (1, .ref g), (2, .int (nI pr)), (3, .long (lN (swt (wys E nr nl) pr (us + 1)))), (5, .int (nI (us + 1)))] := hl
            exact ih59 (us + 1) _ _ _ (by omega) (show (us + 1) ≤ 2 ^ nr from by first | omega | assumption | rfl | (simp_all; done)) hP hD hS hl
  have hl : lv_has ls 6 [(0, .ref q), (1, .ref g), (2, .int (nI pr))] := hl
  refine lv_aload_n hx hb dX3_count_0 rfl (lv_at hl 0 rfl) ?_
  refine va_get (D := D) (ci := 3) (v := .ref w) (C := RX3) (T := TX3) (N := 1) hx hb hts inX3 hown hK hP 0 rfl rfl 0 (by decide) L_9 (fun _ h9 => h9) rfl dX3_count_1 ?_
  refine lv_lconst (v := lN 0) hx hb dX3_count_4 (by decide) ?_
  refine j_callv (va_runS (As := [.ref w, .long (lN 0)]) (rest := []) C.fix (c_J7_fill_d0a16 l D aI aJ aZ w W0 (lN 0) 4096 (show 4096 < 2 ^ 31 from by decide) H.size) (va_cwS 2 hts gX3_count_J7_fill_d0a16 rfl rfl rfl (by decide +kernel) ⟨Nat.le_of_ble_eq_true rfl, Nat.le_of_ble_eq_true rfl⟩) (jPreS hN hK hP hD [1] rfl rfl (by decide)) rfl rfl hl.1 rfl (lv_room (Nat.le_of_ble_eq_true rfl)) dX3_count_5 ⟨Nat.zero_le _, Nat.zero_le _⟩) hA hP hD hS [1] [0, 2, 3] (wr := [(q, .inr (3, [.ref w])), (g, .inr (1, [.ref ga, .ref gb, .int (nI nl), .int (nI nr), .int (nI ne)])), (ga, .inl (aI, 12, (.inl (fun kk => nI (mk (E kk))))))]) rfl rfl (by decide) (by decide) (fun u_5 H locs q_5 hP hD hS => ?_)
  have hP : va_P D vwCl [(q, .inr (3, [.ref w])), (g, .inr (1, [.ref ga, .ref gb, .int (nI nl), .int (nI nr), .int (nI ne)])), (ga, .inl (aI, 12, (.inl (fun kk => nI (mk (E kk)))))), (w, .inl (aJ, 4096, (.inr (.inl (fun _ => (lN 0))))))] H := hP
  have hD : va_D A [(q, .inr (3, [.ref w])), (g, .inr (1, [.ref ga, .ref gb, .int (nI nl), .int (nI nr), .int (nI ne)])), (ga, .inl (aI, 12, (.inl (fun kk => nI (mk (E kk)))))), (w, .inl (aJ, 4096, (.inr (.inl (fun _ => (lN 0))))))] := hD
  refine lv_aload_n hx hb dX3_count_8 rfl (lv_at hl 0 rfl) ?_
  refine va_get (D := D) (ci := 3) (v := .ref w) (C := RX3) (T := TX3) (N := 1) hx hb hts inX3 hown hK hP 0 rfl rfl 0 (by decide) L_9 (fun _ h9 => h9) rfl dX3_count_9 ?_
  refine lv_iconst (v := nI 0) hx hb dX3_count_12 (by decide) ?_
  refine lv_lconst (v := lN 1) hx hb dX3_count_13 (by decide) ?_
  refine j_last (g := vp_updL (fun _ => (lN 0)) 0 (lN 1)) hx hb hK hP hD hS 3 1 rfl rfl (by omega) (by omega) (rfl) dX3_count_14 (fun H locs hP hD hS => ?_)
  have hP : va_P D vwCl [(q, .inr (3, [.ref w])), (g, .inr (1, [.ref ga, .ref gb, .int (nI nl), .int (nI nr), .int (nI ne)])), (ga, .inl (aI, 12, (.inl (fun kk => nI (mk (E kk)))))), (w, .inl (aJ, 4096, (.inr (.inl (vp_updL (fun _ => (lN 0)) 0 (lN 1))))))] H := hP
  have hD : va_D A [(q, .inr (3, [.ref w])), (g, .inr (1, [.ref ga, .ref gb, .int (nI nl), .int (nI nr), .int (nI ne)])), (ga, .inl (aI, 12, (.inl (fun kk => nI (mk (E kk)))))), (w, .inl (aJ, 4096, (.inr (.inl (vp_updL (fun _ => (lN 0)) 0 (lN 1))))))] := hD
  refine lv_iconst (v := nI 0) hx hb dX3_count_15 (by decide) ?_
  refine lv_istore_n (lv' := [(3, .int (nI 0)), (0, .ref q), (1, .ref g), (2, .int (nI pr))]) hx hb dX3_count_16 rfl hl (by decide) rfl (fun ls hl => ?_)
  have hP := hP.sub (ws' := [(q, .inr (3, [.ref w])), (w, .inl (aJ, 4096, (.inr (.inl (vp_updL (fun _ => (lN 0)) 0 (lN 1)))))), (g, .inr (1, [.ref ga, .ref gb, .int (nI nl), .int (nI nr), .int (nI ne)])), (ga, .inl (aI, 12, (.inl (fun kk => nI (mk (E kk))))))]) [0, 3, 1, 2] rfl
  have hD := hD.sub (ws' := [(q, .inr (3, [.ref w])), (w, .inl (aJ, 4096, (.inr (.inl (vp_updL (fun _ => (lN 0)) 0 (lN 1)))))), (g, .inr (1, [.ref ga, .ref gb, .int (nI nl), .int (nI nr), .int (nI ne)])), (ga, .inl (aI, 12, (.inl (fun kk => nI (mk (E kk))))))]) [0, 3, 1, 2] (by decide) rfl
  have hP := va_reL (g := fun kk => lN ((wys E nr 0) kk)) hP 1 rfl (fun kk hkk => by unfold vp_updL; by_cases e : kk = 0; (subst e; rfl); (rw [if_neg e]; show lN 0 = lN (if kk = 0 then 1 else 0); rw [if_neg e]))
  have hD := hD.set (p := 1) (e := .inl (aJ, 4096, (.inr (.inl (fun kk => lN ((wys E nr 0) kk)))))) rfl
  have hP : va_P D vwCl [(q, .inr (3, [.ref w])), (w, .inl (aJ, 4096, (.inr (.inl (fun kk => lN ((wys E nr 0) kk)))))), (g, .inr (1, [.ref ga, .ref gb, .int (nI nl), .int (nI nr), .int (nI ne)])), (ga, .inl (aI, 12, (.inl (fun kk => nI (mk (E kk))))))] H := hP
  have hD : va_D A [(q, .inr (3, [.ref w])), (w, .inl (aJ, 4096, (.inr (.inl (fun kk => lN ((wys E nr 0) kk)))))), (g, .inr (1, [.ref ga, .ref gb, .int (nI nl), .int (nI nr), .int (nI ne)])), (ga, .inl (aI, 12, (.inl (fun kk => nI (mk (E kk))))))] := hD
  have hl := lv_sub (l' := [(0, .ref q), (1, .ref g), (2, .int (nI pr)), (3, .int (nI 0))]) hl [1, 2, 3, 0] rfl
  exact (key _).1 0 _ _ _ (Nat.lt_succ_self _) (show 0 ≤ nl from by first | omega | assumption | rfl | (simp_all; done)) hP hD hS hl
