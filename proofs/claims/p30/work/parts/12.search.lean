abbrev w_X5_putAtEnd_o (aI aJ aZ : ClassId) (q qa qb : Nat) (qu : Nat → Nat) (w : Nat) (x : Nat) (uu0 : Unit) : va_W := [(q, .inr (5, [.ref qa, .ref qb, .int (nI (w + 1))])), (qa, .inl (aI, 12, (.inl (fun kk => nI ((va_up qu w x) kk)))))]
abbrev p_X5_putAtEnd (qu : Nat → Nat) (w : Nat) (x : Nat) (uu0 : Unit) : Prop := True
set_option maxHeartbeats 4000000 in
set_option maxRecDepth 100000 in
theorem c_X5_putAtEnd (l : Launch) (D : va_G) (aI aJ aZ : ClassId) (q qa qb : Nat) (qu : Nat → Nat) (w : Nat) (x : Nat) (hw : w < 12) (sz : Nat) : Met l yX5_putAtEnd wsX5_putAtEnd ({ frames := 0, cells := 0, slots := 0, locals := 0 }) (va_Pc [.ref q, .int (nI x)] (jI D (jT aI aJ aZ) [(q, .inr (5, [.ref qa, .ref qb, .int (nI w)])), (qa, .inl (aI, 12, (.inl (fun kk => nI (qu kk)))))] sz)) (va_Qv (S := Unit) (p_X5_putAtEnd qu w x) (fun u t => jO D (jT aI aJ aZ) (va_A [(q, .inr (5, [.ref qa, .ref qb, .int (nI w)])), (qa, .inl (aI, 12, (.inl (fun kk => nI (qu kk)))))] sz) (w_X5_putAtEnd_o aI aJ aZ q qa qb qu w x u) t) (va_A [(q, .inr (5, [.ref qa, .ref qb, .int (nI w)])), (qa, .inl (aI, 12, (.inl (fun kk => nI (qu kk)))))] sz)) 0 0 (va_A [(q, .inr (5, [.ref qa, .ref qb, .int (nI w)])), (qa, .inl (aI, 12, (.inl (fun kk => nI (qu kk)))))] sz) := by
  refine j_of (Qc := fun A => va_Qv (S := Unit) (p_X5_putAtEnd qu w x) (fun u t => jO D (jT aI aJ aZ) A (w_X5_putAtEnd_o aI aJ aZ q qa qb qu w x u) t) A) (own := RX5) (nm := "putAtEnd") (by decide +kernel) rfl rfl rfl (Nat.le_of_ble_eq_true rfl) ?_
  intro p e s m below meth c A ls H locs C hP hD hS hl
  obtain ⟨hx, hb, hml, hown, hts, hK, hA, hlocks, hr, hn, hN⟩ := id C
  have L_9 := hts (.fieldLink RX5 9 "Phasehall$Search" "queue" "[I") (List.mem_of_getElem? (i := 2) rfl)
  have L_28 := hts (.fieldLink RX5 28 "Phasehall$Search" "waiting" "I") (List.mem_of_getElem? (i := 1) rfl)
  have inX5 : ∀ w ∈ wsX50, w ∈ wsX5_putAtEnd := fun _ h => List.mem_cons_of_mem _ (List.mem_append_right _ h)
  have hl : lv_has ls 2 [(0, .ref q), (1, .int (nI x))] := hl
  refine lv_aload_n hx hb dX5_putAtEnd_0 rfl (lv_at hl 0 rfl) ?_
  refine va_get (D := D) (ci := 5) (v := .int (nI w)) (C := RX5) (T := TX5) (N := 3) hx hb hts inX5 hown hK hP 0 rfl rfl 2 (by decide) L_28 (fun _ h9 => h9) rfl dX5_putAtEnd_1 ?_
  refine lv_bipush (v := nI 12) hx hb dX5_putAtEnd_4 (by decide) ?_
  refine lv_icmp_ge (tgt := 29) hx hb dX5_putAtEnd_6 (by decide) (fun c_6 => ?_) (fun c_6 => ?_)
  · rw [cv_le (by omega) (by omega)] at c_6
    exact absurd c_6 (by omega)
  · rw [cv_le (by omega) (by omega)] at c_6
    refine lv_aload_n hx hb dX5_putAtEnd_9 rfl (lv_at hl 0 rfl) ?_
    refine va_get (D := D) (ci := 5) (v := .ref qa) (C := RX5) (T := TX5) (N := 3) hx hb hts inX5 hown hK hP 0 rfl rfl 0 (by decide) L_9 (fun _ h9 => h9) rfl dX5_putAtEnd_10 ?_
    refine lv_aload_n hx hb dX5_putAtEnd_13 rfl (lv_at hl 0 rfl) ?_
    refine va_get (D := D) (ci := 5) (v := .int (nI w)) (C := RX5) (T := TX5) (N := 3) hx hb hts inX5 hown hK hP 0 rfl rfl 2 (by decide) L_28 (fun _ h9 => h9) rfl dX5_putAtEnd_14 ?_
    refine lv_iload_n hx hb dX5_putAtEnd_17 rfl (lv_at hl 1 rfl) ?_
    refine j_iast (g := fun kk => nI ((va_up qu w x) kk)) hx hb hK hP hD hS 1 0 rfl rfl (by omega) (by omega) (upd_nI _ _ x) dX5_putAtEnd_18 (fun H locs hP hD hS => ?_)
    have hP : va_P D vwCl [(q, .inr (5, [.ref qa, .ref qb, .int (nI w)])), (qa, .inl (aI, 12, (.inl (fun kk => nI ((va_up qu w x) kk)))))] H := hP
    have hD : va_D A [(q, .inr (5, [.ref qa, .ref qb, .int (nI w)])), (qa, .inl (aI, 12, (.inl (fun kk => nI ((va_up qu w x) kk)))))] := hD
    refine lv_aload_n hx hb dX5_putAtEnd_19 rfl (lv_at hl 0 rfl) ?_
    refine lv_dup hx hb dX5_putAtEnd_20 rfl ?_
    refine va_get (D := D) (ci := 5) (v := .int (nI w)) (C := RX5) (T := TX5) (N := 3) hx hb hts inX5 hown hK hP 0 rfl rfl 2 (by decide) L_28 (fun _ h9 => h9) rfl dX5_putAtEnd_21 ?_
    refine lv_iconst (v := nI 1) hx hb dX5_putAtEnd_24 (by decide) ?_
    refine lv_iadd hx hb dX5_putAtEnd_25 ?_
    refine j_topi (y := (nI (w + 1))) (nI_add _ _) ?_
    refine va_put (D := D) (ci := 5) (v := .int (nI (w + 1))) (ty := .int) (C := RX5) (T := TX5) (N := 3) hx hb hts inX5 tyX5 tyX5_ok nmX5 hown hK hP hD hS 0 rfl rfl 2 (by decide) L_28 (fun _ h9 => h9) rfl (by decide +kernel) rfl rfl (Nat.le_of_ble_eq_true rfl) dX5_putAtEnd_26 (fun H locs hP hD hS => ?_)
    have hP : va_P D vwCl [(q, .inr (5, [.ref qa, .ref qb, .int (nI (w + 1))])), (qa, .inl (aI, 12, (.inl (fun kk => nI ((va_up qu w x) kk)))))] H := hP
    have hD : va_D A [(q, .inr (5, [.ref qa, .ref qb, .int (nI (w + 1))])), (qa, .inl (aI, 12, (.inl (fun kk => nI ((va_up qu w x) kk)))))] := hD
    exact j_vret (w1 := fun u => w_X5_putAtEnd_o aI aJ aZ q qa qb qu w x u) (post := p_X5_putAtEnd qu w x) C () hP hD hS trivial dX5_putAtEnd_29
abbrev w_X5_queueFreeLefts_o (aI aJ aZ : ClassId) (q qa qb g ga gb k ka kb : Nat) (qu : Nat → Nat) (w0 : Int32) (mL : Nat → Option Nat) (nl : Nat) (nr : Nat) (ne : Nat) (pr : Int32) (uu0 : Unit) : va_W := [(q, .inr (5, [.ref qa, .ref qb, .int (nI ((fqs mL qu nl).1))])), (qa, .inl (aI, 12, (.inl (fun kk => nI (((fqs mL qu nl).2) kk))))), (g, .inr (1, [.ref ga, .ref gb, .int (nI nl), .int (nI nr), .int (nI ne)])), (k, .inr (2, [.ref ka, .ref kb, .int pr])), (ka, .inl (aI, 12, (.inl (fun kk => oI (mL kk)))))]
abbrev p_X5_queueFreeLefts (qu : Nat → Nat) (w0 : Int32) (mL : Nat → Option Nat) (nl : Nat) (nr : Nat) (ne : Nat) (pr : Int32) (uu0 : Unit) : Prop := True
set_option maxHeartbeats 4000000 in
set_option maxRecDepth 100000 in
theorem c_X5_queueFreeLefts (l : Launch) (D : va_G) (aI aJ aZ : ClassId) (q qa qb g ga gb k ka kb : Nat) (qu : Nat → Nat) (w0 : Int32) (mL : Nat → Option Nat) (nl : Nat) (nr : Nat) (ne : Nat) (pr : Int32) (hnl : nl ≤ 12) (hmL : ∀ k v, mL k = some v → v < 12) (sz : Nat) : Met l yX5_queueFreeLefts wsX5_queueFreeLefts ({ frames := 2, cells := 0, slots := 0, locals := 44 }) (va_Pc [.ref q, .ref g, .ref k] (jI D (jT aI aJ aZ) [(q, .inr (5, [.ref qa, .ref qb, .int w0])), (qa, .inl (aI, 12, (.inl (fun kk => nI (qu kk))))), (g, .inr (1, [.ref ga, .ref gb, .int (nI nl), .int (nI nr), .int (nI ne)])), (k, .inr (2, [.ref ka, .ref kb, .int pr])), (ka, .inl (aI, 12, (.inl (fun kk => oI (mL kk)))))] sz)) (va_Qv (S := Unit) (p_X5_queueFreeLefts qu w0 mL nl nr ne pr) (fun u t => jO D (jT aI aJ aZ) (va_A [(q, .inr (5, [.ref qa, .ref qb, .int w0])), (qa, .inl (aI, 12, (.inl (fun kk => nI (qu kk))))), (g, .inr (1, [.ref ga, .ref gb, .int (nI nl), .int (nI nr), .int (nI ne)])), (k, .inr (2, [.ref ka, .ref kb, .int pr])), (ka, .inl (aI, 12, (.inl (fun kk => oI (mL kk)))))] sz) (w_X5_queueFreeLefts_o aI aJ aZ q qa qb g ga gb k ka kb qu w0 mL nl nr ne pr u) t) (va_A [(q, .inr (5, [.ref qa, .ref qb, .int w0])), (qa, .inl (aI, 12, (.inl (fun kk => nI (qu kk))))), (g, .inr (1, [.ref ga, .ref gb, .int (nI nl), .int (nI nr), .int (nI ne)])), (k, .inr (2, [.ref ka, .ref kb, .int pr])), (ka, .inl (aI, 12, (.inl (fun kk => oI (mL kk)))))] sz)) 0 0 (va_A [(q, .inr (5, [.ref qa, .ref qb, .int w0])), (qa, .inl (aI, 12, (.inl (fun kk => nI (qu kk))))), (g, .inr (1, [.ref ga, .ref gb, .int (nI nl), .int (nI nr), .int (nI ne)])), (k, .inr (2, [.ref ka, .ref kb, .int pr])), (ka, .inl (aI, 12, (.inl (fun kk => oI (mL kk)))))] sz) := by
  refine j_of (Qc := fun A => va_Qv (S := Unit) (p_X5_queueFreeLefts qu w0 mL nl nr ne pr) (fun u t => jO D (jT aI aJ aZ) A (w_X5_queueFreeLefts_o aI aJ aZ q qa qb g ga gb k ka kb qu w0 mL nl nr ne pr u) t) A) (own := RX5) (nm := "queueFreeLefts") (by decide +kernel) rfl rfl rfl (Nat.le_of_ble_eq_true rfl) ?_
  intro p e s m below meth c A ls H locs C hP hD hS hl
  obtain ⟨hx, hb, hml, hown, hts, hK, hA, hlocks, hr, hn, hN⟩ := id C
  have L_28 := hts (.fieldLink RX5 28 "Phasehall$Search" "waiting" "I") (List.mem_of_getElem? (i := 1) rfl)
  have L_40 := hts (.fieldLink RX5 40 "Phasehall$Graph" "leftCount" "I") (List.mem_of_getElem? (i := 2) rfl)
  have inX1 : ∀ w ∈ wsX10, w ∈ wsX5_queueFreeLefts := fun _ h => List.mem_cons_of_mem _ (List.mem_append_left _ (List.mem_append_right _ h))
  have inX5 : ∀ w ∈ wsX50, w ∈ wsX5_queueFreeLefts := fun _ h => List.mem_cons_of_mem _ (List.mem_append_left _ (List.mem_append_left _ (List.mem_append_right _ h)))
  have key : ∀ N : Nat, (∀ (i : Nat) (H : Heap) (locs : List Loc) (ls : Array Slot), (13 - i) < N → (i ≤ nl) → va_P D vwCl [(q, .inr (5, [.ref qa, .ref qb, .int (nI ((fqs mL qu i).1))])), (qa, .inl (aI, 12, (.inl (fun kk => nI (((fqs mL qu i).2) kk))))), (g, .inr (1, [.ref ga, .ref gb, .int (nI nl), .int (nI nr), .int (nI ne)])), (k, .inr (2, [.ref ka, .ref kb, .int pr])), (ka, .inl (aI, 12, (.inl (fun kk => oI (mL kk)))))] H → va_D A [(q, .inr (5, [.ref qa, .ref qb, .int (nI ((fqs mL qu i).1))])), (qa, .inl (aI, 12, (.inl (fun kk => nI (((fqs mL qu i).2) kk))))), (g, .inr (1, [.ref ga, .ref gb, .int (nI nl), .int (nI nr), .int (nI ne)])), (k, .inr (2, [.ref ka, .ref kb, .int pr])), (ka, .inl (aI, 12, (.inl (fun kk => oI (mL kk)))))] → va_S A s.heap H locs → lv_has ls 5 [(0, .ref q), (1, .ref g), (2, .ref k), (3, .int (nI (mk (fre nl mL)))), (4, .int (nI i))] → W p l e ({ frames := 2, cells := 0, slots := 0, locals := 44 }) s m ([.ref q, .ref g, .ref k] : List Value).toArray below meth c H locs 0 0 (MQ below (va_Qv (S := Unit) (p_X5_queueFreeLefts qu w0 mL nl nr ne pr) (fun u t => jO D (jT aI aJ aZ) A (w_X5_queueFreeLefts_o aI aJ aZ q qa qb g ga gb k ka kb qu w0 mL nl nr ne pr u) t) A) ([.ref q, .ref g, .ref k] : List Value).toArray s 0 0 A) (F0 m 17 ls [])) := by
    intro N
    induction N with
    | zero => exact fun _ _ _ _ h => absurd h (Nat.not_lt_zero _)
    | succ N ih =>
      have ih17 := ih
      intro i H locs ls hmeas hi hP hD hS hl
      refine lv_iload hx hb dX5_queueFreeLefts_17 (lv_at hl 4 rfl) ?_
      refine lv_aload_n hx hb dX5_queueFreeLefts_19 rfl (lv_at hl 1 rfl) ?_
      refine va_get (D := D) (ci := 1) (v := .int (nI nl)) (C := RX1) (T := TX1) (N := 5) hx hb hts inX1 hown hK hP 2 rfl rfl 2 (by decide) L_40 (fun _ h9 => h9) rfl dX5_queueFreeLefts_20 ?_
      refine lv_icmp_ge (tgt := 47) hx hb dX5_queueFreeLefts_23 (by decide) (fun c_23 => ?_) (fun c_23 => ?_)
      · rw [cv_le (by omega) (by omega)] at c_23
        have eW : (.inr (5, [.ref qa, .ref qb, .int (nI ((fqs mL qu i).1))]) : va_E) = .inr (5, [.ref qa, .ref qb, .int (nI ((fqs mL qu nl).1))]) := by rw [show i = nl by omega]
        have hP := jv_re (P := fun w => va_P D vwCl w H) hP 0 rfl eW
        have hD := jv_re (P := fun w => va_D A w) hD 0 rfl eW
        have hP := va_reA (g := fun kk => nI (((fqs mL qu nl).2) kk)) hP 1 rfl (fun kk hkk => by rw [show i = nl by omega])
        have hD := hD.set (p := 1) (e := .inl (aI, 12, (.inl (fun kk => nI (((fqs mL qu nl).2) kk))))) rfl
        have hP : va_P D vwCl [(q, .inr (5, [.ref qa, .ref qb, .int (nI ((fqs mL qu nl).1))])), (qa, .inl (aI, 12, (.inl (fun kk => nI (((fqs mL qu nl).2) kk))))), (g, .inr (1, [.ref ga, .ref gb, .int (nI nl), .int (nI nr), .int (nI ne)])), (k, .inr (2, [.ref ka, .ref kb, .int pr])), (ka, .inl (aI, 12, (.inl (fun kk => oI (mL kk)))))] H := hP
        have hD : va_D A [(q, .inr (5, [.ref qa, .ref qb, .int (nI ((fqs mL qu nl).1))])), (qa, .inl (aI, 12, (.inl (fun kk => nI (((fqs mL qu nl).2) kk))))), (g, .inr (1, [.ref ga, .ref gb, .int (nI nl), .int (nI nr), .int (nI ne)])), (k, .inr (2, [.ref ka, .ref kb, .int pr])), (ka, .inl (aI, 12, (.inl (fun kk => oI (mL kk)))))] := hD
        exact j_vret (w1 := fun u => w_X5_queueFreeLefts_o aI aJ aZ q qa qb g ga gb k ka kb qu w0 mL nl nr ne pr u) (post := p_X5_queueFreeLefts qu w0 mL nl nr ne pr) C () hP hD hS trivial dX5_queueFreeLefts_47
      · rw [cv_le (by omega) (by omega)] at c_23
        refine lv_iload_n hx hb dX5_queueFreeLefts_26 rfl (lv_at hl 3 rfl) ?_
        refine lv_iload hx hb dX5_queueFreeLefts_27 (lv_at hl 4 rfl) ?_
        refine j_calli (va_runSN (As := [.int (nI (mk (fre nl mL))), .int (nI i)]) (rest := []) C.fix (c_X6_holds l D aI aJ aZ (mk (fre nl mL)) i (show (mk (fre nl mL)) < 2 ^ 31 from by exact Nat.lt_trans (mk_lt _) (by decide)) (show i < 31 from by first | omega | assumption | rfl | (simp_all; done)) H.size) ⟨(va_cnB 2 hts gX5_queueFreeLefts_X6_holds_n51 rfl rfl rfl (hN (RX5, 51, yX6_holds) (by decide +kernel)) (hts (.initialized RX6) (List.mem_of_getElem? (i := 13) rfl)) (by decide +kernel) ⟨Nat.le_of_ble_eq_true rfl, Nat.le_of_ble_eq_true rfl⟩), (hts (.static yX6_holds) (List.mem_of_getElem? (i := 12) rfl)), trivial⟩ (jPreS hN hK hP hD [] rfl rfl (by decide)) rfl rfl hl.1 rfl (lv_room (Nat.le_of_ble_eq_true rfl)) dX5_queueFreeLefts_29 ⟨Nat.zero_le _, Nat.zero_le _⟩) hA hP hD hS [] [0, 1, 2, 3, 4] (wr := [(q, .inr (5, [.ref qa, .ref qb, .int (nI ((fqs mL qu i).1))])), (qa, .inl (aI, 12, (.inl (fun kk => nI (((fqs mL qu i).2) kk))))), (g, .inr (1, [.ref ga, .ref gb, .int (nI nl), .int (nI nr), .int (nI ne)])), (k, .inr (2, [.ref ka, .ref kb, .int pr])), (ka, .inl (aI, 12, (.inl (fun kk => oI (mL kk)))))]) rfl rfl (by decide) (by decide) (fun r_29 u_29 H locs q_29 hP hD hS => ?_)
        obtain ⟨rfl, -⟩ := q_29
        have hP : va_P D vwCl [(q, .inr (5, [.ref qa, .ref qb, .int (nI ((fqs mL qu i).1))])), (qa, .inl (aI, 12, (.inl (fun kk => nI (((fqs mL qu i).2) kk))))), (g, .inr (1, [.ref ga, .ref gb, .int (nI nl), .int (nI nr), .int (nI ne)])), (k, .inr (2, [.ref ka, .ref kb, .int pr])), (ka, .inl (aI, 12, (.inl (fun kk => oI (mL kk)))))] H := hP
        have hD : va_D A [(q, .inr (5, [.ref qa, .ref qb, .int (nI ((fqs mL qu i).1))])), (qa, .inl (aI, 12, (.inl (fun kk => nI (((fqs mL qu i).2) kk))))), (g, .inr (1, [.ref ga, .ref gb, .int (nI nl), .int (nI nr), .int (nI ne)])), (k, .inr (2, [.ref ka, .ref kb, .int pr])), (ka, .inl (aI, 12, (.inl (fun kk => oI (mL kk)))))] := hD
        refine j_topi (y := (bI (fre nl mL i))) (by rw [mk_tb' _ (by omega)]) ?_
        refine lv_if_eq (tgt := 41) hx hb dX5_queueFreeLefts_32 (by decide) (fun c_32 => ?_) (fun c_32 => ?_)
        · rw [cv_b0] at c_32
          refine lv_iinc (v := nI (i + 1)) (lv' := [(4, .int (nI (i + 1))), (0, .ref q), (1, .ref g), (2, .ref k), (3, .int (nI (mk (fre nl mL))))]) hx hb dX5_queueFreeLefts_41 hl (k := 4) rfl (inc_nI i 1) (by decide) rfl (fun ls hl => ?_)
          refine lv_goto (tgt := 17) hx hb dX5_queueFreeLefts_44 (by decide) ?_
          have eW : (.inr (5, [.ref qa, .ref qb, .int (nI ((fqs mL qu i).1))]) : va_E) = .inr (5, [.ref qa, .ref qb, .int (nI ((fqs mL qu (i + 1)).1))]) := by rw [fqs_no (by have := c_32; simp only [fre, Bool.and_eq_false_iff] at this; rcases this with h | h <;> first | exact h | (simp at h; omega))]
          have hP := jv_re (P := fun w => va_P D vwCl w H) hP 0 rfl eW
          have hD := jv_re (P := fun w => va_D A w) hD 0 rfl eW
          have hP := va_reA (g := fun kk => nI (((fqs mL qu (i + 1)).2) kk)) hP 1 rfl (fun kk hkk => by rw [fqs_no (by have := c_32; simp only [fre, Bool.and_eq_false_iff] at this; rcases this with h | h <;> first | exact h | (simp at h; omega))])
          have hD := hD.set (p := 1) (e := .inl (aI, 12, (.inl (fun kk => nI (((fqs mL qu (i + 1)).2) kk))))) rfl
          have hP : va_P D vwCl [(q, .inr (5, [.ref qa, .ref qb, .int (nI ((fqs mL qu (i + 1)).1))])), (qa, .inl (aI, 12, (.inl (fun kk => nI (((fqs mL qu (i + 1)).2) kk))))), (g, .inr (1, [.ref ga, .ref gb, .int (nI nl), .int (nI nr), .int (nI ne)])), (k, .inr (2, [.ref ka, .ref kb, .int pr])), (ka, .inl (aI, 12, (.inl (fun kk => oI (mL kk)))))] H := hP
          have hD : va_D A [(q, .inr (5, [.ref qa, .ref qb, .int (nI ((fqs mL qu (i + 1)).1))])), (qa, .inl (aI, 12, (.inl (fun kk => nI (((fqs mL qu (i + 1)).2) kk))))), (g, .inr (1, [.ref ga, .ref gb, .int (nI nl), .int (nI nr), .int (nI ne)])), (k, .inr (2, [.ref ka, .ref kb, .int pr])), (ka, .inl (aI, 12, (.inl (fun kk => oI (mL kk)))))] := hD
          have hl := lv_sub (l' := [(0, .ref q), (1, .ref g), (2, .ref k), (3, .int (nI (mk (fre nl mL)))), (4, .int (nI (i + 1)))]) hl [1, 2, 3, 4, 0] rfl
          exact ih17 (i + 1) _ _ _ (by omega) (show (i + 1) ≤ nl from by first | omega | assumption | rfl | (simp_all; done)) hP hD hS hl
        · rw [cv_b0] at c_32
          rw [cv_nb] at c_32
          have hf : (mL i).isNone = true := by have := c_32; simp [fre] at this; simp [this]
          refine lv_aload_n hx hb dX5_queueFreeLefts_35 rfl (lv_at hl 0 rfl) ?_
          refine lv_iload hx hb dX5_queueFreeLefts_36 (lv_at hl 4 rfl) ?_
          refine j_callv (va_runV (As := [.int (nI i)]) (rest := []) C.fix (c_X5_putAtEnd l D aI aJ aZ q qa qb ((fqs mL qu i).2) ((fqs mL qu i).1) i (show ((fqs mL qu i).1) < 12 from by have := fqs_le mL qu i; omega) H.size) (cwV 1 hts gX5_queueFreeLefts_X5_putAtEnd rfl rfl rfl (by decide +kernel) ⟨Nat.le_of_ble_eq_true rfl, Nat.le_of_ble_eq_true rfl⟩) (jPreV hN hK hP hD [0, 1] rfl rfl (by decide) (ci := 5) (q0 := 0) rfl rfl) rfl rfl hl.1 rfl (lv_room (Nat.le_of_ble_eq_true rfl)) dX5_queueFreeLefts_38 ⟨Nat.zero_le _, Nat.zero_le _⟩) hA hP hD hS [0, 1] [2, 3, 4] (wr := [(g, .inr (1, [.ref ga, .ref gb, .int (nI nl), .int (nI nr), .int (nI ne)])), (k, .inr (2, [.ref ka, .ref kb, .int pr])), (ka, .inl (aI, 12, (.inl (fun kk => oI (mL kk)))))]) rfl rfl (by decide) (by decide) (fun u_38 H locs q_38 hP hD hS => ?_)
          have hP : va_P D vwCl [(g, .inr (1, [.ref ga, .ref gb, .int (nI nl), .int (nI nr), .int (nI ne)])), (k, .inr (2, [.ref ka, .ref kb, .int pr])), (ka, .inl (aI, 12, (.inl (fun kk => oI (mL kk))))), (q, .inr (5, [.ref qa, .ref qb, .int (nI (((fqs mL qu i).1) + 1))])), (qa, .inl (aI, 12, (.inl (fun kk => nI ((va_up ((fqs mL qu i).2) ((fqs mL qu i).1) i) kk)))))] H := hP
          have hD : va_D A [(g, .inr (1, [.ref ga, .ref gb, .int (nI nl), .int (nI nr), .int (nI ne)])), (k, .inr (2, [.ref ka, .ref kb, .int pr])), (ka, .inl (aI, 12, (.inl (fun kk => oI (mL kk))))), (q, .inr (5, [.ref qa, .ref qb, .int (nI (((fqs mL qu i).1) + 1))])), (qa, .inl (aI, 12, (.inl (fun kk => nI ((va_up ((fqs mL qu i).2) ((fqs mL qu i).1) i) kk)))))] := hD
          refine lv_iinc (v := nI (i + 1)) (lv' := [(4, .int (nI (i + 1))), (0, .ref q), (1, .ref g), (2, .ref k), (3, .int (nI (mk (fre nl mL))))]) hx hb dX5_queueFreeLefts_41 hl (k := 4) rfl (inc_nI i 1) (by decide) rfl (fun ls hl => ?_)
          refine lv_goto (tgt := 17) hx hb dX5_queueFreeLefts_44 (by decide) ?_
          have hP := hP.sub (ws' := [(q, .inr (5, [.ref qa, .ref qb, .int (nI (((fqs mL qu i).1) + 1))])), (qa, .inl (aI, 12, (.inl (fun kk => nI ((va_up ((fqs mL qu i).2) ((fqs mL qu i).1) i) kk))))), (g, .inr (1, [.ref ga, .ref gb, .int (nI nl), .int (nI nr), .int (nI ne)])), (k, .inr (2, [.ref ka, .ref kb, .int pr])), (ka, .inl (aI, 12, (.inl (fun kk => oI (mL kk)))))]) [3, 4, 0, 1, 2] rfl
          have hD := hD.sub (ws' := [(q, .inr (5, [.ref qa, .ref qb, .int (nI (((fqs mL qu i).1) + 1))])), (qa, .inl (aI, 12, (.inl (fun kk => nI ((va_up ((fqs mL qu i).2) ((fqs mL qu i).1) i) kk))))), (g, .inr (1, [.ref ga, .ref gb, .int (nI nl), .int (nI nr), .int (nI ne)])), (k, .inr (2, [.ref ka, .ref kb, .int pr])), (ka, .inl (aI, 12, (.inl (fun kk => oI (mL kk)))))]) [3, 4, 0, 1, 2] (by decide) rfl
          have eW : (.inr (5, [.ref qa, .ref qb, .int (nI (((fqs mL qu i).1) + 1))]) : va_E) = .inr (5, [.ref qa, .ref qb, .int (nI ((fqs mL qu (i + 1)).1))]) := by rw [fqs_yes hf]
          have hP := jv_re (P := fun w => va_P D vwCl w H) hP 0 rfl eW
          have hD := jv_re (P := fun w => va_D A w) hD 0 rfl eW
          have hP := va_reA (g := fun kk => nI (((fqs mL qu (i + 1)).2) kk)) hP 1 rfl (fun kk hkk => by rw [fqs_yes hf])
          have hD := hD.set (p := 1) (e := .inl (aI, 12, (.inl (fun kk => nI (((fqs mL qu (i + 1)).2) kk))))) rfl
          have hP : va_P D vwCl [(q, .inr (5, [.ref qa, .ref qb, .int (nI ((fqs mL qu (i + 1)).1))])), (qa, .inl (aI, 12, (.inl (fun kk => nI (((fqs mL qu (i + 1)).2) kk))))), (g, .inr (1, [.ref ga, .ref gb, .int (nI nl), .int (nI nr), .int (nI ne)])), (k, .inr (2, [.ref ka, .ref kb, .int pr])), (ka, .inl (aI, 12, (.inl (fun kk => oI (mL kk)))))] H := hP
          have hD : va_D A [(q, .inr (5, [.ref qa, .ref qb, .int (nI ((fqs mL qu (i + 1)).1))])), (qa, .inl (aI, 12, (.inl (fun kk => nI (((fqs mL qu (i + 1)).2) kk))))), (g, .inr (1, [.ref ga, .ref gb, .int (nI nl), .int (nI nr), .int (nI ne)])), (k, .inr (2, [.ref ka, .ref kb, .int pr])), (ka, .inl (aI, 12, (.inl (fun kk => oI (mL kk)))))] := hD
          have hl := lv_sub (l' := [(0, .ref q), (1, .ref g), (2, .ref k), (3, .int (nI (mk (fre nl mL)))), (4, .int (nI (i + 1)))]) hl [1, 2, 3, 4, 0] rfl
          exact ih17 (i + 1) _ _ _ (by omega) (show (i + 1) ≤ nl from by first | omega | assumption | rfl | (simp_all; done)) hP hD hS hl
  have hl : lv_has ls 5 [(0, .ref q), (1, .ref g), (2, .ref k)] := hl
  refine lv_aload_n hx hb dX5_queueFreeLefts_0 rfl (lv_at hl 0 rfl) ?_
  refine lv_iconst (v := nI 0) hx hb dX5_queueFreeLefts_1 (by decide) ?_
  refine va_put (D := D) (ci := 5) (v := .int (nI 0)) (ty := .int) (C := RX5) (T := TX5) (N := 3) hx hb hts inX5 tyX5 tyX5_ok nmX5 hown hK hP hD hS 0 rfl rfl 2 (by decide) L_28 (fun _ h9 => h9) rfl (by decide +kernel) rfl rfl (Nat.le_of_ble_eq_true rfl) dX5_queueFreeLefts_2 (fun H locs hP hD hS => ?_)
  have hP : va_P D vwCl [(q, .inr (5, [.ref qa, .ref qb, .int (nI 0)])), (qa, .inl (aI, 12, (.inl (fun kk => nI (qu kk))))), (g, .inr (1, [.ref ga, .ref gb, .int (nI nl), .int (nI nr), .int (nI ne)])), (k, .inr (2, [.ref ka, .ref kb, .int pr])), (ka, .inl (aI, 12, (.inl (fun kk => oI (mL kk)))))] H := hP
  have hD : va_D A [(q, .inr (5, [.ref qa, .ref qb, .int (nI 0)])), (qa, .inl (aI, 12, (.inl (fun kk => nI (qu kk))))), (g, .inr (1, [.ref ga, .ref gb, .int (nI nl), .int (nI nr), .int (nI ne)])), (k, .inr (2, [.ref ka, .ref kb, .int pr])), (ka, .inl (aI, 12, (.inl (fun kk => oI (mL kk)))))] := hD
  refine lv_aload_n hx hb dX5_queueFreeLefts_5 rfl (lv_at hl 2 rfl) ?_
  refine lv_aload_n hx hb dX5_queueFreeLefts_6 rfl (lv_at hl 1 rfl) ?_
  refine va_get (D := D) (ci := 1) (v := .int (nI nl)) (C := RX1) (T := TX1) (N := 5) hx hb hts inX1 hown hK hP 2 rfl rfl 2 (by decide) L_40 (fun _ h9 => h9) rfl dX5_queueFreeLefts_7 ?_
  refine j_calli (va_runV (As := [.int (nI nl)]) (rest := []) C.fix (c_X2_freeLefts l D aI aJ aZ k ka kb mL nl pr (show nl ≤ 12 from by exact hnl) (show ∀ k v, mL k = some v → v < 2 ^ 31 from by exact fun k v h => Nat.lt_trans (hmL k v h) (by decide)) H.size) (cwV 1 hts gX5_queueFreeLefts_X2_freeLefts rfl rfl rfl (by decide +kernel) ⟨Nat.le_of_ble_eq_true rfl, Nat.le_of_ble_eq_true rfl⟩) (jPreV hN hK hP hD [3, 4] rfl rfl (by decide) (ci := 2) (q0 := 3) rfl rfl) rfl rfl hl.1 rfl (lv_room (Nat.le_of_ble_eq_true rfl)) dX5_queueFreeLefts_10 ⟨Nat.zero_le _, Nat.zero_le _⟩) hA hP hD hS [3, 4] [0, 1, 2] (wr := [(q, .inr (5, [.ref qa, .ref qb, .int (nI 0)])), (qa, .inl (aI, 12, (.inl (fun kk => nI (qu kk))))), (g, .inr (1, [.ref ga, .ref gb, .int (nI nl), .int (nI nr), .int (nI ne)]))]) rfl rfl (by decide) (by decide) (fun r_10 u_10 H locs q_10 hP hD hS => ?_)
  obtain ⟨rfl, -⟩ := q_10
  have hP : va_P D vwCl [(q, .inr (5, [.ref qa, .ref qb, .int (nI 0)])), (qa, .inl (aI, 12, (.inl (fun kk => nI (qu kk))))), (g, .inr (1, [.ref ga, .ref gb, .int (nI nl), .int (nI nr), .int (nI ne)])), (k, .inr (2, [.ref ka, .ref kb, .int pr])), (ka, .inl (aI, 12, (.inl (fun kk => oI (mL kk)))))] H := hP
  have hD : va_D A [(q, .inr (5, [.ref qa, .ref qb, .int (nI 0)])), (qa, .inl (aI, 12, (.inl (fun kk => nI (qu kk))))), (g, .inr (1, [.ref ga, .ref gb, .int (nI nl), .int (nI nr), .int (nI ne)])), (k, .inr (2, [.ref ka, .ref kb, .int pr])), (ka, .inl (aI, 12, (.inl (fun kk => oI (mL kk)))))] := hD
  refine lv_istore_n (lv' := [(3, .int (nI (mk (fun z => decide (z < nl) && (mL z).isNone)))), (0, .ref q), (1, .ref g), (2, .ref k)]) hx hb dX5_queueFreeLefts_13 rfl hl (by decide) rfl (fun ls hl => ?_)
  refine lv_iconst (v := nI 0) hx hb dX5_queueFreeLefts_14 (by decide) ?_
  refine lv_istore (lv' := [(4, .int (nI 0)), (3, .int (nI (mk (fun z => decide (z < nl) && (mL z).isNone)))), (0, .ref q), (1, .ref g), (2, .ref k)]) hx hb dX5_queueFreeLefts_15 hl (by decide) rfl (fun ls hl => ?_)
  have eW : (.inr (5, [.ref qa, .ref qb, .int (nI 0)]) : va_E) = .inr (5, [.ref qa, .ref qb, .int (nI ((fqs mL qu 0).1))]) := by rfl
  have hP := jv_re (P := fun w => va_P D vwCl w H) hP 0 rfl eW
  have hD := jv_re (P := fun w => va_D A w) hD 0 rfl eW
  have hP := va_reA (g := fun kk => nI (((fqs mL qu 0).2) kk)) hP 1 rfl (fun kk hkk => by rfl)
  have hD := hD.set (p := 1) (e := .inl (aI, 12, (.inl (fun kk => nI (((fqs mL qu 0).2) kk))))) rfl
  have hP : va_P D vwCl [(q, .inr (5, [.ref qa, .ref qb, .int (nI ((fqs mL qu 0).1))])), (qa, .inl (aI, 12, (.inl (fun kk => nI (((fqs mL qu 0).2) kk))))), (g, .inr (1, [.ref ga, .ref gb, .int (nI nl), .int (nI nr), .int (nI ne)])), (k, .inr (2, [.ref ka, .ref kb, .int pr])), (ka, .inl (aI, 12, (.inl (fun kk => oI (mL kk)))))] H := hP
  have hD : va_D A [(q, .inr (5, [.ref qa, .ref qb, .int (nI ((fqs mL qu 0).1))])), (qa, .inl (aI, 12, (.inl (fun kk => nI (((fqs mL qu 0).2) kk))))), (g, .inr (1, [.ref ga, .ref gb, .int (nI nl), .int (nI nr), .int (nI ne)])), (k, .inr (2, [.ref ka, .ref kb, .int pr])), (ka, .inl (aI, 12, (.inl (fun kk => oI (mL kk)))))] := hD
  have hl := lv_sub (l' := [(0, .ref q), (1, .ref g), (2, .ref k), (3, .int (nI (mk (fun z => decide (z < nl) && (mL z).isNone)))), (4, .int (nI 0))]) hl [2, 3, 4, 1, 0] rfl
  have hl := lv_re hl 3 rfl (show (.int (nI (mk (fun z => decide (z < nl) && (mL z).isNone))) : Value) = .int (nI (mk (fre nl mL))) from congrArg _ (by rfl))
  have hl : lv_has ls 5 [(0, .ref q), (1, .ref g), (2, .ref k), (3, .int (nI (mk (fre nl mL)))), (4, .int (nI 0))] := hl
  exact (key _) 0 _ _ _ (Nat.lt_succ_self _) (show 0 ≤ nl from by first | omega | assumption | rfl | (simp_all; done)) hP hD hS hl
abbrev w_X5_lookFrom_o (aI aJ aZ : ClassId) (q qa qb g ga gb k ka kb : Nat) (E : Nat → Nat → Bool) (mL : Nat → Option Nat) (mR : Nat → Option Nat) (nl : Nat) (nr : Nat) (ne : Nat) (x : Nat) (lf : Nat → Option Nat) (qu : Nat → Nat) (w : Nat) (pr : Int32) (uu0 : Unit) : va_W := [(q, .inr (5, [.ref qa, .ref qb, .int (nI ((lkr E mR x nr 0 (lf, qu, w)).2.2.2))])), (qa, .inl (aI, 12, (.inl (fun kk => nI (((lkr E mR x nr 0 (lf, qu, w)).2.2.1) kk))))), (qb, .inl (aI, 12, (.inl (fun kk => oI (((lkr E mR x nr 0 (lf, qu, w)).2.1) kk))))), (g, .inr (1, [.ref ga, .ref gb, .int (nI nl), .int (nI nr), .int (nI ne)])), (ga, .inl (aI, 12, (.inl (fun kk => nI (mk (E kk)))))), (k, .inr (2, [.ref ka, .ref kb, .int pr])), (kb, .inl (aI, 12, (.inl (fun kk => oI (mR kk)))))]
abbrev p_X5_lookFrom (E : Nat → Nat → Bool) (mL : Nat → Option Nat) (mR : Nat → Option Nat) (nl : Nat) (nr : Nat) (ne : Nat) (x : Nat) (lf : Nat → Option Nat) (qu : Nat → Nat) (w : Nat) (pr : Int32) (rr0 : Int32) (uu0 : Unit) : Prop := rr0 = oI ((lkr E mR x nr 0 (lf, qu, w)).1) ∧ (True)
set_option maxHeartbeats 4000000 in
set_option maxRecDepth 100000 in
theorem c_X5_lookFrom (l : Launch) (D : va_G) (aI aJ aZ : ClassId) (q qa qb g ga gb k ka kb : Nat) (E : Nat → Nat → Bool) (mL : Nat → Option Nat) (mR : Nat → Option Nat) (nl : Nat) (nr : Nat) (ne : Nat) (x : Nat) (lf : Nat → Option Nat) (qu : Nat → Nat) (w : Nat) (pr : Int32) (hnl : nl ≤ 12) (hnr : nr ≤ 12) (hx1 : x < nl) (hm : MT nl nr E mL mR) (hq0 : QI nl mL (lf, qu, w)) (sz : Nat) : Met l yX5_lookFrom wsX5_lookFrom ({ frames := 2, cells := 0, slots := 0, locals := 43 }) (va_Pc [.ref q, .int (nI x), .ref g, .ref k] (jI D (jT aI aJ aZ) [(q, .inr (5, [.ref qa, .ref qb, .int (nI w)])), (qa, .inl (aI, 12, (.inl (fun kk => nI (qu kk))))), (qb, .inl (aI, 12, (.inl (fun kk => oI (lf kk))))), (g, .inr (1, [.ref ga, .ref gb, .int (nI nl), .int (nI nr), .int (nI ne)])), (ga, .inl (aI, 12, (.inl (fun kk => nI (mk (E kk)))))), (k, .inr (2, [.ref ka, .ref kb, .int pr])), (kb, .inl (aI, 12, (.inl (fun kk => oI (mR kk)))))] sz)) (va_Qi (S := Unit) (p_X5_lookFrom E mL mR nl nr ne x lf qu w pr) (fun u t => jO D (jT aI aJ aZ) (va_A [(q, .inr (5, [.ref qa, .ref qb, .int (nI w)])), (qa, .inl (aI, 12, (.inl (fun kk => nI (qu kk))))), (qb, .inl (aI, 12, (.inl (fun kk => oI (lf kk))))), (g, .inr (1, [.ref ga, .ref gb, .int (nI nl), .int (nI nr), .int (nI ne)])), (ga, .inl (aI, 12, (.inl (fun kk => nI (mk (E kk)))))), (k, .inr (2, [.ref ka, .ref kb, .int pr])), (kb, .inl (aI, 12, (.inl (fun kk => oI (mR kk)))))] sz) (w_X5_lookFrom_o aI aJ aZ q qa qb g ga gb k ka kb E mL mR nl nr ne x lf qu w pr u) t) (va_A [(q, .inr (5, [.ref qa, .ref qb, .int (nI w)])), (qa, .inl (aI, 12, (.inl (fun kk => nI (qu kk))))), (qb, .inl (aI, 12, (.inl (fun kk => oI (lf kk))))), (g, .inr (1, [.ref ga, .ref gb, .int (nI nl), .int (nI nr), .int (nI ne)])), (ga, .inl (aI, 12, (.inl (fun kk => nI (mk (E kk)))))), (k, .inr (2, [.ref ka, .ref kb, .int pr])), (kb, .inl (aI, 12, (.inl (fun kk => oI (mR kk)))))] sz)) 0 0 (va_A [(q, .inr (5, [.ref qa, .ref qb, .int (nI w)])), (qa, .inl (aI, 12, (.inl (fun kk => nI (qu kk))))), (qb, .inl (aI, 12, (.inl (fun kk => oI (lf kk))))), (g, .inr (1, [.ref ga, .ref gb, .int (nI nl), .int (nI nr), .int (nI ne)])), (ga, .inl (aI, 12, (.inl (fun kk => nI (mk (E kk)))))), (k, .inr (2, [.ref ka, .ref kb, .int pr])), (kb, .inl (aI, 12, (.inl (fun kk => oI (mR kk)))))] sz) := by
  refine j_of (Qc := fun A => va_Qi (S := Unit) (p_X5_lookFrom E mL mR nl nr ne x lf qu w pr) (fun u t => jO D (jT aI aJ aZ) A (w_X5_lookFrom_o aI aJ aZ q qa qb g ga gb k ka kb E mL mR nl nr ne x lf qu w pr u) t) A) (own := RX5) (nm := "lookFrom") (by decide +kernel) rfl rfl rfl (Nat.le_of_ble_eq_true rfl) ?_
  intro p e s m below meth c A ls H locs C hP hD hS hl
  obtain ⟨hx, hb, hml, hown, hts, hK, hA, hlocks, hr, hn, hN⟩ := id C
  have L_15 := hts (.fieldLink RX5 15 "Phasehall$Search" "lookedFrom" "[I") (List.mem_of_getElem? (i := 2) rfl)
  have L_59 := hts (.fieldLink RX5 59 "Phasehall$Graph" "rightCount" "I") (List.mem_of_getElem? (i := 1) rfl)
  have L_65 := hts (.fieldLink RX5 65 "Phasehall$Matching" "ofRight" "[I") (List.mem_of_getElem? (i := 3) rfl)
  have inX1 : ∀ w ∈ wsX10, w ∈ wsX5_lookFrom := fun _ h => List.mem_cons_of_mem _ (List.mem_append_left _ (List.mem_append_left _ (List.mem_append_right _ h)))
  have inX2 : ∀ w ∈ wsX20, w ∈ wsX5_lookFrom := fun _ h => List.mem_cons_of_mem _ (List.mem_append_right _ h)
  have inX5 : ∀ w ∈ wsX50, w ∈ wsX5_lookFrom := fun _ h => List.mem_cons_of_mem _ (List.mem_append_left _ (List.mem_append_right _ h))
  have key : ∀ N : Nat, (∀ (j : Nat) (lf1 : Nat → Option Nat) (q1 : Nat → Nat) (w1 : Nat) (H : Heap) (locs : List Loc) (ls : Array Slot), (13 - j) < N → (j ≤ nr) → (lkr E mR x (nr - j) j (lf1, q1, w1) = (lkr E mR x nr 0 (lf, qu, w))) → (QI nl mL (lf1, q1, w1)) → va_P D vwCl [(q, .inr (5, [.ref qa, .ref qb, .int (nI w1)])), (qa, .inl (aI, 12, (.inl (fun kk => nI (q1 kk))))), (qb, .inl (aI, 12, (.inl (fun kk => oI (lf1 kk))))), (g, .inr (1, [.ref ga, .ref gb, .int (nI nl), .int (nI nr), .int (nI ne)])), (ga, .inl (aI, 12, (.inl (fun kk => nI (mk (E kk)))))), (k, .inr (2, [.ref ka, .ref kb, .int pr])), (kb, .inl (aI, 12, (.inl (fun kk => oI (mR kk)))))] H → va_D A [(q, .inr (5, [.ref qa, .ref qb, .int (nI w1)])), (qa, .inl (aI, 12, (.inl (fun kk => nI (q1 kk))))), (qb, .inl (aI, 12, (.inl (fun kk => oI (lf1 kk))))), (g, .inr (1, [.ref ga, .ref gb, .int (nI nl), .int (nI nr), .int (nI ne)])), (ga, .inl (aI, 12, (.inl (fun kk => nI (mk (E kk)))))), (k, .inr (2, [.ref ka, .ref kb, .int pr])), (kb, .inl (aI, 12, (.inl (fun kk => oI (mR kk)))))] → va_S A s.heap H locs → lv_has ls 6 [(0, .ref q), (1, .int (nI x)), (2, .ref g), (3, .ref k), (4, .int (nI j))] → W p l e ({ frames := 2, cells := 0, slots := 0, locals := 43 }) s m ([.ref q, .int (nI x), .ref g, .ref k] : List Value).toArray below meth c H locs 0 0 (MQ below (va_Qi (S := Unit) (p_X5_lookFrom E mL mR nl nr ne x lf qu w pr) (fun u t => jO D (jT aI aJ aZ) A (w_X5_lookFrom_o aI aJ aZ q qa qb g ga gb k ka kb E mL mR nl nr ne x lf qu w pr u) t) A) ([.ref q, .int (nI x), .ref g, .ref k] : List Value).toArray s 0 0 A) (F0 m 3 ls [])) := by
    intro N
    induction N with
    | zero => exact fun _ _ _ _ _ _ _ h => absurd h (Nat.not_lt_zero _)
    | succ N ih =>
      have ih3 := ih
      intro j lf1 q1 w1 H locs ls hmeas hj hR hQ hP hD hS hl
      refine lv_iload hx hb dX5_lookFrom_3 (lv_at hl 4 rfl) ?_
      refine lv_aload_n hx hb dX5_lookFrom_5 rfl (lv_at hl 2 rfl) ?_
      refine va_get (D := D) (ci := 1) (v := .int (nI nr)) (C := RX1) (T := TX1) (N := 5) hx hb hts inX1 hown hK hP 3 rfl rfl 3 (by decide) L_59 (fun _ h9 => h9) rfl dX5_lookFrom_6 ?_
      refine lv_icmp_ge (tgt := 71) hx hb dX5_lookFrom_9 (by decide) (fun c_9 => ?_) (fun c_9 => ?_)
      · rw [cv_le (by omega) (by omega)] at c_9
        have hE := hR
        rw [lkr_end (by omega)] at hE
        refine lv_iconst (v := oI none) hx hb dX5_lookFrom_71 (by decide) ?_
        have eW : (.inr (5, [.ref qa, .ref qb, .int (nI w1)]) : va_E) = .inr (5, [.ref qa, .ref qb, .int (nI ((lkr E mR x nr 0 (lf, qu, w)).2.2.2))]) := by rw [← hE]
        have hP := jv_re (P := fun w => va_P D vwCl w H) hP 0 rfl eW
        have hD := jv_re (P := fun w => va_D A w) hD 0 rfl eW
        have hP := va_reA (g := fun kk => nI (((lkr E mR x nr 0 (lf, qu, w)).2.2.1) kk)) hP 1 rfl (fun kk hkk => by rw [← hE])
        have hD := hD.set (p := 1) (e := .inl (aI, 12, (.inl (fun kk => nI (((lkr E mR x nr 0 (lf, qu, w)).2.2.1) kk))))) rfl
        have hP := va_reA (g := fun kk => oI (((lkr E mR x nr 0 (lf, qu, w)).2.1) kk)) hP 2 rfl (fun kk hkk => by rw [← hE])
        have hD := hD.set (p := 2) (e := .inl (aI, 12, (.inl (fun kk => oI (((lkr E mR x nr 0 (lf, qu, w)).2.1) kk))))) rfl
        have hP : va_P D vwCl [(q, .inr (5, [.ref qa, .ref qb, .int (nI ((lkr E mR x nr 0 (lf, qu, w)).2.2.2))])), (qa, .inl (aI, 12, (.inl (fun kk => nI (((lkr E mR x nr 0 (lf, qu, w)).2.2.1) kk))))), (qb, .inl (aI, 12, (.inl (fun kk => oI (((lkr E mR x nr 0 (lf, qu, w)).2.1) kk))))), (g, .inr (1, [.ref ga, .ref gb, .int (nI nl), .int (nI nr), .int (nI ne)])), (ga, .inl (aI, 12, (.inl (fun kk => nI (mk (E kk)))))), (k, .inr (2, [.ref ka, .ref kb, .int pr])), (kb, .inl (aI, 12, (.inl (fun kk => oI (mR kk)))))] H := hP
        have hD : va_D A [(q, .inr (5, [.ref qa, .ref qb, .int (nI ((lkr E mR x nr 0 (lf, qu, w)).2.2.2))])), (qa, .inl (aI, 12, (.inl (fun kk => nI (((lkr E mR x nr 0 (lf, qu, w)).2.2.1) kk))))), (qb, .inl (aI, 12, (.inl (fun kk => oI (((lkr E mR x nr 0 (lf, qu, w)).2.1) kk))))), (g, .inr (1, [.ref ga, .ref gb, .int (nI nl), .int (nI nr), .int (nI ne)])), (ga, .inl (aI, 12, (.inl (fun kk => nI (mk (E kk)))))), (k, .inr (2, [.ref ka, .ref kb, .int pr])), (kb, .inl (aI, 12, (.inl (fun kk => oI (mR kk)))))] := hD
        have eV : oI none = oI ((lkr E mR x nr 0 (lf, qu, w)).1) := by exact congrArg (fun z => oI z.1) hE
        exact j_iret (w1 := fun u => w_X5_lookFrom_o aI aJ aZ q qa qb g ga gb k ka kb E mL mR nl nr ne x lf qu w pr u) (post := p_X5_lookFrom E mL mR nl nr ne x lf qu w pr) C () hP hD hS ⟨eV, trivial⟩ dX5_lookFrom_72
      · rw [cv_le (by omega) (by omega)] at c_9
        refine lv_aload_n hx hb dX5_lookFrom_12 rfl (lv_at hl 2 rfl) ?_
        refine lv_iload_n hx hb dX5_lookFrom_13 rfl (lv_at hl 1 rfl) ?_
        refine lv_iload hx hb dX5_lookFrom_14 (lv_at hl 4 rfl) ?_
        refine j_calli (va_runV (As := [.int (nI x), .int (nI j)]) (rest := []) C.fix (c_X1_has l D aI aJ aZ g ga gb E nl nr ne x j (show x < 12 from by first | omega | assumption | rfl | (simp_all; done)) (show j < 12 from by first | omega | assumption | rfl | (simp_all; done)) H.size) (cwV 2 hts gX5_lookFrom_X1_has rfl rfl rfl (by decide +kernel) ⟨Nat.le_of_ble_eq_true rfl, Nat.le_of_ble_eq_true rfl⟩) (jPreV hN hK hP hD [3, 4] rfl rfl (by decide) (ci := 1) (q0 := 3) rfl rfl) rfl rfl hl.1 rfl (lv_room (Nat.le_of_ble_eq_true rfl)) dX5_lookFrom_16 ⟨Nat.zero_le _, Nat.zero_le _⟩) hA hP hD hS [3, 4] [0, 1, 2, 5, 6] (wr := [(q, .inr (5, [.ref qa, .ref qb, .int (nI w1)])), (qa, .inl (aI, 12, (.inl (fun kk => nI (q1 kk))))), (qb, .inl (aI, 12, (.inl (fun kk => oI (lf1 kk))))), (k, .inr (2, [.ref ka, .ref kb, .int pr])), (kb, .inl (aI, 12, (.inl (fun kk => oI (mR kk)))))]) rfl rfl (by decide) (by decide) (fun r_16 u_16 H locs q_16 hP hD hS => ?_)
        obtain ⟨rfl, -⟩ := q_16
        have hP : va_P D vwCl [(q, .inr (5, [.ref qa, .ref qb, .int (nI w1)])), (qa, .inl (aI, 12, (.inl (fun kk => nI (q1 kk))))), (qb, .inl (aI, 12, (.inl (fun kk => oI (lf1 kk))))), (k, .inr (2, [.ref ka, .ref kb, .int pr])), (kb, .inl (aI, 12, (.inl (fun kk => oI (mR kk))))), (g, .inr (1, [.ref ga, .ref gb, .int (nI nl), .int (nI nr), .int (nI ne)])), (ga, .inl (aI, 12, (.inl (fun kk => nI (mk (E kk))))))] H := hP
        have hD : va_D A [(q, .inr (5, [.ref qa, .ref qb, .int (nI w1)])), (qa, .inl (aI, 12, (.inl (fun kk => nI (q1 kk))))), (qb, .inl (aI, 12, (.inl (fun kk => oI (lf1 kk))))), (k, .inr (2, [.ref ka, .ref kb, .int pr])), (kb, .inl (aI, 12, (.inl (fun kk => oI (mR kk))))), (g, .inr (1, [.ref ga, .ref gb, .int (nI nl), .int (nI nr), .int (nI ne)])), (ga, .inl (aI, 12, (.inl (fun kk => nI (mk (E kk))))))] := hD
        refine lv_if_eq (tgt := 65) hx hb dX5_lookFrom_19 (by decide) (fun c_19 => ?_) (fun c_19 => ?_)
        · rw [cv_b0] at c_19
          refine lv_iinc (v := nI (j + 1)) (lv' := [(4, .int (nI (j + 1))), (0, .ref q), (1, .int (nI x)), (2, .ref g), (3, .ref k)]) hx hb dX5_lookFrom_65 hl (k := 4) rfl (inc_nI j 1) (by decide) rfl (fun ls hl => ?_)
          refine lv_goto (tgt := 3) hx hb dX5_lookFrom_68 (by decide) ?_
          have hP := hP.sub (ws' := [(q, .inr (5, [.ref qa, .ref qb, .int (nI w1)])), (qa, .inl (aI, 12, (.inl (fun kk => nI (q1 kk))))), (qb, .inl (aI, 12, (.inl (fun kk => oI (lf1 kk))))), (g, .inr (1, [.ref ga, .ref gb, .int (nI nl), .int (nI nr), .int (nI ne)])), (ga, .inl (aI, 12, (.inl (fun kk => nI (mk (E kk)))))), (k, .inr (2, [.ref ka, .ref kb, .int pr])), (kb, .inl (aI, 12, (.inl (fun kk => oI (mR kk)))))]) [0, 1, 2, 5, 6, 3, 4] rfl
          have hD := hD.sub (ws' := [(q, .inr (5, [.ref qa, .ref qb, .int (nI w1)])), (qa, .inl (aI, 12, (.inl (fun kk => nI (q1 kk))))), (qb, .inl (aI, 12, (.inl (fun kk => oI (lf1 kk))))), (g, .inr (1, [.ref ga, .ref gb, .int (nI nl), .int (nI nr), .int (nI ne)])), (ga, .inl (aI, 12, (.inl (fun kk => nI (mk (E kk)))))), (k, .inr (2, [.ref ka, .ref kb, .int pr])), (kb, .inl (aI, 12, (.inl (fun kk => oI (mR kk)))))]) [0, 1, 2, 5, 6, 3, 4] (by decide) rfl
          have hl := lv_sub (l' := [(0, .ref q), (1, .int (nI x)), (2, .ref g), (3, .ref k), (4, .int (nI (j + 1)))]) hl [1, 2, 3, 4, 0] rfl
          exact ih3 (j + 1) lf1 q1 w1 _ _ _ (by omega) (show (j + 1) ≤ nr from by first | omega | assumption | rfl | (simp_all; done)) (show lkr E mR x (nr - (j + 1)) (j + 1) (lf1, q1, w1) = (lkr E mR x nr 0 (lf, qu, w)) from by rw [← hR]; exact (lkr_skip (by omega) (fun k => by rw [c_19] at k; cases k.1)).symm) (show QI nl mL (lf1, q1, w1) from by exact hQ) hP hD hS hl
        · rw [cv_b0] at c_19
          rw [cv_nb] at c_19
          refine lv_aload_n hx hb dX5_lookFrom_22 rfl (lv_at hl 0 rfl) ?_
          refine va_get (D := D) (ci := 5) (v := .ref qb) (C := RX5) (T := TX5) (N := 3) hx hb hts inX5 hown hK hP 0 rfl rfl 1 (by decide) L_15 (fun _ h9 => h9) rfl dX5_lookFrom_23 ?_
          refine lv_iload hx hb dX5_lookFrom_26 (lv_at hl 4 rfl) ?_
          refine j_iald (v := oI (lf1 j)) hx hb hK hP 2 0 rfl rfl (by omega) (by omega) (rfl) dX5_lookFrom_28 ?_
          refine lv_iconst (v := oI none) hx hb dX5_lookFrom_29 (by decide) ?_
          refine lv_icmp_ne (tgt := 65) hx hb dX5_lookFrom_30 (by decide) (fun c_30 => ?_) (fun c_30 => ?_)
          · rw [show oI none = (-1 : Int32) from rfl, cv_oN (fun v hv => by have := hQ.2.2 _ v hv; omega)] at c_30
            obtain ⟨v1, hv1⟩ := some_of c_30
            refine lv_iinc (v := nI (j + 1)) (lv' := [(4, .int (nI (j + 1))), (0, .ref q), (1, .int (nI x)), (2, .ref g), (3, .ref k)]) hx hb dX5_lookFrom_65 hl (k := 4) rfl (inc_nI j 1) (by decide) rfl (fun ls hl => ?_)
            refine lv_goto (tgt := 3) hx hb dX5_lookFrom_68 (by decide) ?_
            have hP := hP.sub (ws' := [(q, .inr (5, [.ref qa, .ref qb, .int (nI w1)])), (qa, .inl (aI, 12, (.inl (fun kk => nI (q1 kk))))), (qb, .inl (aI, 12, (.inl (fun kk => oI (lf1 kk))))), (g, .inr (1, [.ref ga, .ref gb, .int (nI nl), .int (nI nr), .int (nI ne)])), (ga, .inl (aI, 12, (.inl (fun kk => nI (mk (E kk)))))), (k, .inr (2, [.ref ka, .ref kb, .int pr])), (kb, .inl (aI, 12, (.inl (fun kk => oI (mR kk)))))]) [0, 1, 2, 5, 6, 3, 4] rfl
            have hD := hD.sub (ws' := [(q, .inr (5, [.ref qa, .ref qb, .int (nI w1)])), (qa, .inl (aI, 12, (.inl (fun kk => nI (q1 kk))))), (qb, .inl (aI, 12, (.inl (fun kk => oI (lf1 kk))))), (g, .inr (1, [.ref ga, .ref gb, .int (nI nl), .int (nI nr), .int (nI ne)])), (ga, .inl (aI, 12, (.inl (fun kk => nI (mk (E kk)))))), (k, .inr (2, [.ref ka, .ref kb, .int pr])), (kb, .inl (aI, 12, (.inl (fun kk => oI (mR kk)))))]) [0, 1, 2, 5, 6, 3, 4] (by decide) rfl
            have hl := lv_sub (l' := [(0, .ref q), (1, .int (nI x)), (2, .ref g), (3, .ref k), (4, .int (nI (j + 1)))]) hl [1, 2, 3, 4, 0] rfl
            exact ih3 (j + 1) lf1 q1 w1 _ _ _ (by omega) (show (j + 1) ≤ nr from by first | omega | assumption | rfl | (simp_all; done)) (show lkr E mR x (nr - (j + 1)) (j + 1) (lf1, q1, w1) = (lkr E mR x nr 0 (lf, qu, w)) from by rw [← hR]; exact (lkr_skip (by omega) (fun k => by have := k.2; simp_all)).symm) (show QI nl mL (lf1, q1, w1) from by exact hQ) hP hD hS hl
          · rw [show oI none = (-1 : Int32) from rfl, cv_oN (fun v hv => by have := hQ.2.2 _ v hv; omega)] at c_30
            refine lv_aload_n hx hb dX5_lookFrom_33 rfl (lv_at hl 0 rfl) ?_
            refine va_get (D := D) (ci := 5) (v := .ref qb) (C := RX5) (T := TX5) (N := 3) hx hb hts inX5 hown hK hP 0 rfl rfl 1 (by decide) L_15 (fun _ h9 => h9) rfl dX5_lookFrom_34 ?_
            refine lv_iload hx hb dX5_lookFrom_37 (lv_at hl 4 rfl) ?_
            refine lv_iload_n hx hb dX5_lookFrom_39 rfl (lv_at hl 1 rfl) ?_
            refine j_iast (g := fun kk => oI ((va_up lf1 j (some x)) kk)) hx hb hK hP hD hS 2 0 rfl rfl (by omega) (by omega) (upd_oI _ _ (some x)) dX5_lookFrom_40 (fun H locs hP hD hS => ?_)
            have hP : va_P D vwCl [(q, .inr (5, [.ref qa, .ref qb, .int (nI w1)])), (qa, .inl (aI, 12, (.inl (fun kk => nI (q1 kk))))), (qb, .inl (aI, 12, (.inl (fun kk => oI ((va_up lf1 j (some x)) kk))))), (k, .inr (2, [.ref ka, .ref kb, .int pr])), (kb, .inl (aI, 12, (.inl (fun kk => oI (mR kk))))), (g, .inr (1, [.ref ga, .ref gb, .int (nI nl), .int (nI nr), .int (nI ne)])), (ga, .inl (aI, 12, (.inl (fun kk => nI (mk (E kk))))))] H := hP
            have hD : va_D A [(q, .inr (5, [.ref qa, .ref qb, .int (nI w1)])), (qa, .inl (aI, 12, (.inl (fun kk => nI (q1 kk))))), (qb, .inl (aI, 12, (.inl (fun kk => oI ((va_up lf1 j (some x)) kk))))), (k, .inr (2, [.ref ka, .ref kb, .int pr])), (kb, .inl (aI, 12, (.inl (fun kk => oI (mR kk))))), (g, .inr (1, [.ref ga, .ref gb, .int (nI nl), .int (nI nr), .int (nI ne)])), (ga, .inl (aI, 12, (.inl (fun kk => nI (mk (E kk))))))] := hD
            refine lv_aload_n hx hb dX5_lookFrom_41 rfl (lv_at hl 3 rfl) ?_
            refine va_get (D := D) (ci := 2) (v := .ref kb) (C := RX2) (T := TX2) (N := 3) hx hb hts inX2 hown hK hP 3 rfl rfl 1 (by decide) L_65 (fun _ h9 => h9) rfl dX5_lookFrom_42 ?_
            refine lv_iload hx hb dX5_lookFrom_45 (lv_at hl 4 rfl) ?_
            refine j_iald (v := oI (mR j)) hx hb hK hP 4 0 rfl rfl (by omega) (by omega) (rfl) dX5_lookFrom_47 ?_
            refine lv_istore (lv' := [(5, .int (oI (mR j))), (0, .ref q), (1, .int (nI x)), (2, .ref g), (3, .ref k), (4, .int (nI j))]) hx hb dX5_lookFrom_48 hl (by decide) rfl (fun ls hl => ?_)
            refine lv_iload hx hb dX5_lookFrom_50 (lv_at hl 0 rfl) ?_
            refine lv_iconst (v := oI none) hx hb dX5_lookFrom_52 (by decide) ?_
            refine lv_icmp_ne (tgt := 59) hx hb dX5_lookFrom_53 (by decide) (fun c_53 => ?_) (fun c_53 => ?_)
            · rw [show oI none = (-1 : Int32) from rfl, cv_oN (fun v hv => by have := (hm.r hv).1; omega)] at c_53
              obtain ⟨v2, hv2⟩ := some_of c_53
              rw [hv2] at hl
              have hl : lv_has ls 6 [(5, .int (nI v2)), (0, .ref q), (1, .int (nI x)), (2, .ref g), (3, .ref k), (4, .int (nI j))] := hl
              refine lv_aload_n hx hb dX5_lookFrom_59 rfl (lv_at hl 1 rfl) ?_
              refine lv_iload hx hb dX5_lookFrom_60 (lv_at hl 0 rfl) ?_
              refine j_callv (va_runV (As := [.int (nI v2)]) (rest := []) C.fix (c_X5_putAtEnd l D aI aJ aZ q qa qb q1 w1 v2 (show w1 < 12 from by have : w1 < nl := hQ.lt (hm.r hv2).1 (hm.r hv2).2.2.2 c_30; omega) H.size) (cwV 1 hts gX5_lookFrom_X5_putAtEnd rfl rfl rfl (by decide +kernel) ⟨Nat.le_of_ble_eq_true rfl, Nat.le_of_ble_eq_true rfl⟩) (jPreV hN hK hP hD [0, 1] rfl rfl (by decide) (ci := 5) (q0 := 0) rfl rfl) rfl rfl hl.1 rfl (lv_room (Nat.le_of_ble_eq_true rfl)) dX5_lookFrom_62 ⟨Nat.zero_le _, Nat.zero_le _⟩) hA hP hD hS [0, 1] [2, 3, 4, 5, 6] (wr := [(qb, .inl (aI, 12, (.inl (fun kk => oI ((va_up lf1 j (some x)) kk))))), (k, .inr (2, [.ref ka, .ref kb, .int pr])), (kb, .inl (aI, 12, (.inl (fun kk => oI (mR kk))))), (g, .inr (1, [.ref ga, .ref gb, .int (nI nl), .int (nI nr), .int (nI ne)])), (ga, .inl (aI, 12, (.inl (fun kk => nI (mk (E kk))))))]) rfl rfl (by decide) (by decide) (fun u_62 H locs q_62 hP hD hS => ?_)
              have hP : va_P D vwCl [(qb, .inl (aI, 12, (.inl (fun kk => oI ((va_up lf1 j (some x)) kk))))), (k, .inr (2, [.ref ka, .ref kb, .int pr])), (kb, .inl (aI, 12, (.inl (fun kk => oI (mR kk))))), (g, .inr (1, [.ref ga, .ref gb, .int (nI nl), .int (nI nr), .int (nI ne)])), (ga, .inl (aI, 12, (.inl (fun kk => nI (mk (E kk)))))), (q, .inr (5, [.ref qa, .ref qb, .int (nI (w1 + 1))])), (qa, .inl (aI, 12, (.inl (fun kk => nI ((va_up q1 w1 v2) kk)))))] H := hP
              have hD : va_D A [(qb, .inl (aI, 12, (.inl (fun kk => oI ((va_up lf1 j (some x)) kk))))), (k, .inr (2, [.ref ka, .ref kb, .int pr])), (kb, .inl (aI, 12, (.inl (fun kk => oI (mR kk))))), (g, .inr (1, [.ref ga, .ref gb, .int (nI nl), .int (nI nr), .int (nI ne)])), (ga, .inl (aI, 12, (.inl (fun kk => nI (mk (E kk)))))), (q, .inr (5, [.ref qa, .ref qb, .int (nI (w1 + 1))])), (qa, .inl (aI, 12, (.inl (fun kk => nI ((va_up q1 w1 v2) kk)))))] := hD
              refine lv_iinc (v := nI (j + 1)) (lv' := [(4, .int (nI (j + 1))), (5, .int (nI v2)), (0, .ref q), (1, .int (nI x)), (2, .ref g), (3, .ref k)]) hx hb dX5_lookFrom_65 hl (k := 5) rfl (inc_nI j 1) (by decide) rfl (fun ls hl => ?_)
              refine lv_goto (tgt := 3) hx hb dX5_lookFrom_68 (by decide) ?_
              have hP := hP.sub (ws' := [(q, .inr (5, [.ref qa, .ref qb, .int (nI (w1 + 1))])), (qa, .inl (aI, 12, (.inl (fun kk => nI ((va_up q1 w1 v2) kk))))), (qb, .inl (aI, 12, (.inl (fun kk => oI ((va_up lf1 j (some x)) kk))))), (g, .inr (1, [.ref ga, .ref gb, .int (nI nl), .int (nI nr), .int (nI ne)])), (ga, .inl (aI, 12, (.inl (fun kk => nI (mk (E kk)))))), (k, .inr (2, [.ref ka, .ref kb, .int pr])), (kb, .inl (aI, 12, (.inl (fun kk => oI (mR kk)))))]) [5, 6, 0, 3, 4, 1, 2] rfl
              have hD := hD.sub (ws' := [(q, .inr (5, [.ref qa, .ref qb, .int (nI (w1 + 1))])), (qa, .inl (aI, 12, (.inl (fun kk => nI ((va_up q1 w1 v2) kk))))), (qb, .inl (aI, 12, (.inl (fun kk => oI ((va_up lf1 j (some x)) kk))))), (g, .inr (1, [.ref ga, .ref gb, .int (nI nl), .int (nI nr), .int (nI ne)])), (ga, .inl (aI, 12, (.inl (fun kk => nI (mk (E kk)))))), (k, .inr (2, [.ref ka, .ref kb, .int pr])), (kb, .inl (aI, 12, (.inl (fun kk => oI (mR kk)))))]) [5, 6, 0, 3, 4, 1, 2] (by decide) rfl
              have hl := lv_sub (l' := [(0, .ref q), (1, .int (nI x)), (2, .ref g), (3, .ref k), (4, .int (nI (j + 1)))]) hl [2, 3, 4, 5, 0] rfl
              exact ih3 (j + 1) (va_up lf1 j (some x)) (va_up q1 w1 v2) (w1 + 1) _ _ _ (by omega) (show (j + 1) ≤ nr from by first | omega | assumption | rfl | (simp_all; done)) (show lkr E mR x (nr - (j + 1)) (j + 1) ((va_up lf1 j (some x)), (va_up q1 w1 v2), (w1 + 1)) = (lkr E mR x nr 0 (lf, qu, w)) from by rw [← hR]; exact (lkr_queue (t := (lf1, q1, w1)) (r := j) (by omega) c_19 c_30 hv2).symm) (show QI nl mL ((va_up lf1 j (some x)), (va_up q1 w1 v2), (w1 + 1)) from by exact hQ.step (hm.r hv2).1 (hm.r hv2).2.2.2 c_30 hx1) hP hD hS hl
            · rw [show oI none = (-1 : Int32) from rfl, cv_oN (fun v hv => by have := (hm.r hv).1; omega)] at c_53
              rw [c_53] at hl
              have hl : lv_has ls 6 [(5, .int (oI none)), (0, .ref q), (1, .int (nI x)), (2, .ref g), (3, .ref k), (4, .int (nI j))] := hl
              refine lv_iload hx hb dX5_lookFrom_56 (lv_at hl 5 rfl) ?_
              have hE := hR
              rw [lkr_found (by omega) c_19 c_30 c_53] at hE
              have hP := hP.sub (ws' := [(q, .inr (5, [.ref qa, .ref qb, .int (nI w1)])), (qa, .inl (aI, 12, (.inl (fun kk => nI (q1 kk))))), (qb, .inl (aI, 12, (.inl (fun kk => oI ((va_up lf1 j (some x)) kk))))), (g, .inr (1, [.ref ga, .ref gb, .int (nI nl), .int (nI nr), .int (nI ne)])), (ga, .inl (aI, 12, (.inl (fun kk => nI (mk (E kk)))))), (k, .inr (2, [.ref ka, .ref kb, .int pr])), (kb, .inl (aI, 12, (.inl (fun kk => oI (mR kk)))))]) [0, 1, 2, 5, 6, 3, 4] rfl
              have hD := hD.sub (ws' := [(q, .inr (5, [.ref qa, .ref qb, .int (nI w1)])), (qa, .inl (aI, 12, (.inl (fun kk => nI (q1 kk))))), (qb, .inl (aI, 12, (.inl (fun kk => oI ((va_up lf1 j (some x)) kk))))), (g, .inr (1, [.ref ga, .ref gb, .int (nI nl), .int (nI nr), .int (nI ne)])), (ga, .inl (aI, 12, (.inl (fun kk => nI (mk (E kk)))))), (k, .inr (2, [.ref ka, .ref kb, .int pr])), (kb, .inl (aI, 12, (.inl (fun kk => oI (mR kk)))))]) [0, 1, 2, 5, 6, 3, 4] (by decide) rfl
              have eW : (.inr (5, [.ref qa, .ref qb, .int (nI w1)]) : va_E) = .inr (5, [.ref qa, .ref qb, .int (nI ((lkr E mR x nr 0 (lf, qu, w)).2.2.2))]) := by rw [← hE]
              have hP := jv_re (P := fun w => va_P D vwCl w H) hP 0 rfl eW
              have hD := jv_re (P := fun w => va_D A w) hD 0 rfl eW
              have hP := va_reA (g := fun kk => nI (((lkr E mR x nr 0 (lf, qu, w)).2.2.1) kk)) hP 1 rfl (fun kk hkk => by rw [← hE])
              have hD := hD.set (p := 1) (e := .inl (aI, 12, (.inl (fun kk => nI (((lkr E mR x nr 0 (lf, qu, w)).2.2.1) kk))))) rfl
              have hP := va_reA (g := fun kk => oI (((lkr E mR x nr 0 (lf, qu, w)).2.1) kk)) hP 2 rfl (fun kk hkk => by rw [← hE])
              have hD := hD.set (p := 2) (e := .inl (aI, 12, (.inl (fun kk => oI (((lkr E mR x nr 0 (lf, qu, w)).2.1) kk))))) rfl
              have hP : va_P D vwCl [(q, .inr (5, [.ref qa, .ref qb, .int (nI ((lkr E mR x nr 0 (lf, qu, w)).2.2.2))])), (qa, .inl (aI, 12, (.inl (fun kk => nI (((lkr E mR x nr 0 (lf, qu, w)).2.2.1) kk))))), (qb, .inl (aI, 12, (.inl (fun kk => oI (((lkr E mR x nr 0 (lf, qu, w)).2.1) kk))))), (g, .inr (1, [.ref ga, .ref gb, .int (nI nl), .int (nI nr), .int (nI ne)])), (ga, .inl (aI, 12, (.inl (fun kk => nI (mk (E kk)))))), (k, .inr (2, [.ref ka, .ref kb, .int pr])), (kb, .inl (aI, 12, (.inl (fun kk => oI (mR kk)))))] H := hP
              have hD : va_D A [(q, .inr (5, [.ref qa, .ref qb, .int (nI ((lkr E mR x nr 0 (lf, qu, w)).2.2.2))])), (qa, .inl (aI, 12, (.inl (fun kk => nI (((lkr E mR x nr 0 (lf, qu, w)).2.2.1) kk))))), (qb, .inl (aI, 12, (.inl (fun kk => oI (((lkr E mR x nr 0 (lf, qu, w)).2.1) kk))))), (g, .inr (1, [.ref ga, .ref gb, .int (nI nl), .int (nI nr), .int (nI ne)])), (ga, .inl (aI, 12, (.inl (fun kk => nI (mk (E kk)))))), (k, .inr (2, [.ref ka, .ref kb, .int pr])), (kb, .inl (aI, 12, (.inl (fun kk => oI (mR kk)))))] := hD
              have eV : nI j = oI ((lkr E mR x nr 0 (lf, qu, w)).1) := by exact congrArg (fun z => oI z.1) hE
              exact j_iret (w1 := fun u => w_X5_lookFrom_o aI aJ aZ q qa qb g ga gb k ka kb E mL mR nl nr ne x lf qu w pr u) (post := p_X5_lookFrom E mL mR nl nr ne x lf qu w pr) C () hP hD hS ⟨eV, trivial⟩ dX5_lookFrom_58
  have hl : lv_has ls 6 [(0, .ref q), (1, .int (nI x)), (2, .ref g), (3, .ref k)] := hl
  refine lv_iconst (v := nI 0) hx hb dX5_lookFrom_0 (by decide) ?_
  refine lv_istore (lv' := [(4, .int (nI 0)), (0, .ref q), (1, .int (nI x)), (2, .ref g), (3, .ref k)]) hx hb dX5_lookFrom_1 hl (by decide) rfl (fun ls hl => ?_)
  have hl := lv_sub (l' := [(0, .ref q), (1, .int (nI x)), (2, .ref g), (3, .ref k), (4, .int (nI 0))]) hl [1, 2, 3, 4, 0] rfl
  exact (key _) 0 lf qu w _ _ _ (Nat.lt_succ_self _) (show 0 ≤ nr from by first | omega | assumption | rfl | (simp_all; done)) (show lkr E mR x (nr - 0) 0 (lf, qu, w) = (lkr E mR x nr 0 (lf, qu, w)) from by rfl) (show QI nl mL (lf, qu, w) from by exact hq0) hP hD hS hl
abbrev w_X5_changePath_o (aI aJ aZ : ClassId) (q qa qb k ka kb : Nat) (lf : Nat → Option Nat) (mL : Nat → Option Nat) (mR : Nat → Option Nat) (r : Nat) (n : Nat) (w : Int32) (uu0 : Unit) : va_W := [(q, .inr (5, [.ref qa, .ref qb, .int w])), (qb, .inl (aI, 12, (.inl (fun kk => oI (lf kk))))), (k, .inr (2, [.ref ka, .ref kb, .int (nI (n + 1))])), (ka, .inl (aI, 12, (.inl (fun kk => oI (((flp lf 12 mL mR (some r)).1) kk))))), (kb, .inl (aI, 12, (.inl (fun kk => oI (((flp lf 12 mL mR (some r)).2) kk)))))]
abbrev p_X5_changePath (lf : Nat → Option Nat) (mL : Nat → Option Nat) (mR : Nat → Option Nat) (r : Nat) (n : Nat) (w : Int32) (uu0 : Unit) : Prop := True
set_option maxHeartbeats 4000000 in
set_option maxRecDepth 100000 in
theorem c_X5_changePath (l : Launch) (D : va_G) (aI aJ aZ : ClassId) (q qa qb k ka kb : Nat) (lf : Nat → Option Nat) (mL : Nat → Option Nat) (mR : Nat → Option Nat) (r : Nat) (n : Nat) (w : Int32) (hr1 : r < 12) (hlf : ∀ r l, lf r = some l → l < 12) (hmL : ∀ k v, mL k = some v → v < 12) (sz : Nat) : Met l yX5_changePath wsX5_changePath ({ frames := 1, cells := 0, slots := 0, locals := 22 }) (va_Pc [.ref q, .int (nI r), .ref k] (jI D (jT aI aJ aZ) [(q, .inr (5, [.ref qa, .ref qb, .int w])), (qb, .inl (aI, 12, (.inl (fun kk => oI (lf kk))))), (k, .inr (2, [.ref ka, .ref kb, .int (nI n)])), (ka, .inl (aI, 12, (.inl (fun kk => oI (mL kk))))), (kb, .inl (aI, 12, (.inl (fun kk => oI (mR kk)))))] sz)) (va_Qv (S := Unit) (p_X5_changePath lf mL mR r n w) (fun u t => jO D (jT aI aJ aZ) (va_A [(q, .inr (5, [.ref qa, .ref qb, .int w])), (qb, .inl (aI, 12, (.inl (fun kk => oI (lf kk))))), (k, .inr (2, [.ref ka, .ref kb, .int (nI n)])), (ka, .inl (aI, 12, (.inl (fun kk => oI (mL kk))))), (kb, .inl (aI, 12, (.inl (fun kk => oI (mR kk)))))] sz) (w_X5_changePath_o aI aJ aZ q qa qb k ka kb lf mL mR r n w u) t) (va_A [(q, .inr (5, [.ref qa, .ref qb, .int w])), (qb, .inl (aI, 12, (.inl (fun kk => oI (lf kk))))), (k, .inr (2, [.ref ka, .ref kb, .int (nI n)])), (ka, .inl (aI, 12, (.inl (fun kk => oI (mL kk))))), (kb, .inl (aI, 12, (.inl (fun kk => oI (mR kk)))))] sz)) 0 0 (va_A [(q, .inr (5, [.ref qa, .ref qb, .int w])), (qb, .inl (aI, 12, (.inl (fun kk => oI (lf kk))))), (k, .inr (2, [.ref ka, .ref kb, .int (nI n)])), (ka, .inl (aI, 12, (.inl (fun kk => oI (mL kk))))), (kb, .inl (aI, 12, (.inl (fun kk => oI (mR kk)))))] sz) := by
  refine j_of (Qc := fun A => va_Qv (S := Unit) (p_X5_changePath lf mL mR r n w) (fun u t => jO D (jT aI aJ aZ) A (w_X5_changePath_o aI aJ aZ q qa qb k ka kb lf mL mR r n w u) t) A) (own := RX5) (nm := "changePath") (by decide +kernel) rfl rfl rfl (Nat.le_of_ble_eq_true rfl) ?_
  intro p e s m below meth c A ls H locs C hP hD hS hl
  obtain ⟨hx, hb, hml, hown, hts, hK, hA, hlocks, hr, hn, hN⟩ := id C
  have L_15 := hts (.fieldLink RX5 15 "Phasehall$Search" "lookedFrom" "[I") (List.mem_of_getElem? (i := 1) rfl)
  have L_68 := hts (.fieldLink RX5 68 "Phasehall$Matching" "ofLeft" "[I") (List.mem_of_getElem? (i := 2) rfl)
  have L_75 := hts (.fieldLink RX5 75 "Phasehall$Matching" "pairs" "I") (List.mem_of_getElem? (i := 3) rfl)
  have inX2 : ∀ w ∈ wsX20, w ∈ wsX5_changePath := fun _ h => List.mem_cons_of_mem _ (List.mem_append_right _ h)
  have inX5 : ∀ w ∈ wsX50, w ∈ wsX5_changePath := fun _ h => List.mem_cons_of_mem _ (List.mem_append_left _ (List.mem_append_right _ h))
  have key : ∀ N : Nat, (∀ (i : Nat) (o : Option Nat) (m1 : Nat → Option Nat) (m2 : Nat → Option Nat) (H : Heap) (locs : List Loc) (ls : Array Slot), (13 - i) < N → (i ≤ 12) → (flp lf (12 - i) m1 m2 o = (flp lf 12 mL mR (some r))) → (∀ v, o = some v → v < 12) → (∀ k v, m1 k = some v → v < 12) → va_P D vwCl [(q, .inr (5, [.ref qa, .ref qb, .int w])), (qb, .inl (aI, 12, (.inl (fun kk => oI (lf kk))))), (k, .inr (2, [.ref ka, .ref kb, .int (nI n)])), (ka, .inl (aI, 12, (.inl (fun kk => oI (m1 kk))))), (kb, .inl (aI, 12, (.inl (fun kk => oI (m2 kk)))))] H → va_D A [(q, .inr (5, [.ref qa, .ref qb, .int w])), (qb, .inl (aI, 12, (.inl (fun kk => oI (lf kk))))), (k, .inr (2, [.ref ka, .ref kb, .int (nI n)])), (ka, .inl (aI, 12, (.inl (fun kk => oI (m1 kk))))), (kb, .inl (aI, 12, (.inl (fun kk => oI (m2 kk)))))] → va_S A s.heap H locs → lv_has ls 7 [(0, .ref q), (1, .int (nI r)), (2, .ref k), (3, .int (oI o)), (4, .int (nI i))] → W p l e ({ frames := 1, cells := 0, slots := 0, locals := 22 }) s m ([.ref q, .int (nI r), .ref k] : List Value).toArray below meth c H locs 0 0 (MQ below (va_Qv (S := Unit) (p_X5_changePath lf mL mR r n w) (fun u t => jO D (jT aI aJ aZ) A (w_X5_changePath_o aI aJ aZ q qa qb k ka kb lf mL mR r n w u) t) A) ([.ref q, .int (nI r), .ref k] : List Value).toArray s 0 0 A) (F0 m 5 ls [])) ∧ (∀  (H : Heap) (locs : List Loc) (ls : Array Slot), 0 < N → va_P D vwCl [(q, .inr (5, [.ref qa, .ref qb, .int w])), (qb, .inl (aI, 12, (.inl (fun kk => oI (lf kk))))), (k, .inr (2, [.ref ka, .ref kb, .int (nI n)])), (ka, .inl (aI, 12, (.inl (fun kk => oI (((flp lf 12 mL mR (some r)).1) kk))))), (kb, .inl (aI, 12, (.inl (fun kk => oI (((flp lf 12 mL mR (some r)).2) kk)))))] H → va_D A [(q, .inr (5, [.ref qa, .ref qb, .int w])), (qb, .inl (aI, 12, (.inl (fun kk => oI (lf kk))))), (k, .inr (2, [.ref ka, .ref kb, .int (nI n)])), (ka, .inl (aI, 12, (.inl (fun kk => oI (((flp lf 12 mL mR (some r)).1) kk))))), (kb, .inl (aI, 12, (.inl (fun kk => oI (((flp lf 12 mL mR (some r)).2) kk)))))] → va_S A s.heap H locs → lv_has ls 7 [(0, .ref q), (1, .int (nI r)), (2, .ref k)] → W p l e ({ frames := 1, cells := 0, slots := 0, locals := 22 }) s m ([.ref q, .int (nI r), .ref k] : List Value).toArray below meth c H locs 0 0 (MQ below (va_Qv (S := Unit) (p_X5_changePath lf mL mR r n w) (fun u t => jO D (jT aI aJ aZ) A (w_X5_changePath_o aI aJ aZ q qa qb k ka kb lf mL mR r n w u) t) A) ([.ref q, .int (nI r), .ref k] : List Value).toArray s 0 0 A) (F0 m 59 ls [])) := by
    intro N
    induction N with
    | zero => exact ⟨fun _ _ _ _ _ _ _ h => absurd h (Nat.not_lt_zero _), fun _ _ _ h => absurd h (Nat.not_lt_zero _)⟩
    | succ N ih =>
      obtain ⟨ih5, ih59⟩ := ih
      refine ⟨?_, ?_⟩
      · intro i o m1 m2 H locs ls hmeas hi hR ho hm1 hP hD hS hl
        refine lv_iload hx hb dX5_changePath_5 (lv_at hl 4 rfl) ?_
        refine lv_bipush (v := nI 12) hx hb dX5_changePath_7 (by decide) ?_
        refine lv_icmp_ge (tgt := 59) hx hb dX5_changePath_9 (by decide) (fun c_9 => ?_) (fun c_9 => ?_)
        · rw [cv_le (by omega) (by omega)] at c_9
          have hP := va_reA (g := fun kk => oI (((flp lf 12 mL mR (some r)).1) kk)) hP 3 rfl (fun kk hkk => by rw [← hR, show 12 - i = 0 by omega]; rfl)
          have hD := hD.set (p := 3) (e := .inl (aI, 12, (.inl (fun kk => oI (((flp lf 12 mL mR (some r)).1) kk))))) rfl
          have hP := va_reA (g := fun kk => oI (((flp lf 12 mL mR (some r)).2) kk)) hP 4 rfl (fun kk hkk => by rw [← hR, show 12 - i = 0 by omega]; rfl)
          have hD := hD.set (p := 4) (e := .inl (aI, 12, (.inl (fun kk => oI (((flp lf 12 mL mR (some r)).2) kk))))) rfl
          have hP : va_P D vwCl [(q, .inr (5, [.ref qa, .ref qb, .int w])), (qb, .inl (aI, 12, (.inl (fun kk => oI (lf kk))))), (k, .inr (2, [.ref ka, .ref kb, .int (nI n)])), (ka, .inl (aI, 12, (.inl (fun kk => oI (((flp lf 12 mL mR (some r)).1) kk))))), (kb, .inl (aI, 12, (.inl (fun kk => oI (((flp lf 12 mL mR (some r)).2) kk)))))] H := hP
          have hD : va_D A [(q, .inr (5, [.ref qa, .ref qb, .int w])), (qb, .inl (aI, 12, (.inl (fun kk => oI (lf kk))))), (k, .inr (2, [.ref ka, .ref kb, .int (nI n)])), (ka, .inl (aI, 12, (.inl (fun kk => oI (((flp lf 12 mL mR (some r)).1) kk))))), (kb, .inl (aI, 12, (.inl (fun kk => oI (((flp lf 12 mL mR (some r)).2) kk)))))] := hD
          have hl := lv_sub (l' := [(0, .ref q), (1, .int (nI r)), (2, .ref k)]) hl [0, 1, 2] rfl
          exact ih59  _ _ _ (by omega)  hP hD hS hl
        · rw [cv_le (by omega) (by omega)] at c_9
          refine lv_iload_n hx hb dX5_changePath_12 rfl (lv_at hl 3 rfl) ?_
          refine lv_iconst (v := oI none) hx hb dX5_changePath_13 (by decide) ?_
          refine lv_icmp_eq (tgt := 59) hx hb dX5_changePath_14 (by decide) (fun c_14 => ?_) (fun c_14 => ?_)
          · rw [show oI none = (-1 : Int32) from rfl, cv_oN (fun v hv => by have := ho v hv; omega)] at c_14
            rw [c_14] at hl
            have hl : lv_has ls 7 [(0, .ref q), (1, .int (nI r)), (2, .ref k), (3, .int (oI none)), (4, .int (nI i))] := hl
            have hP := va_reA (g := fun kk => oI (((flp lf 12 mL mR (some r)).1) kk)) hP 3 rfl (fun kk hkk => by rw [← hR, c_14, flp_none])
            have hD := hD.set (p := 3) (e := .inl (aI, 12, (.inl (fun kk => oI (((flp lf 12 mL mR (some r)).1) kk))))) rfl
            have hP := va_reA (g := fun kk => oI (((flp lf 12 mL mR (some r)).2) kk)) hP 4 rfl (fun kk hkk => by rw [← hR, c_14, flp_none])
            have hD := hD.set (p := 4) (e := .inl (aI, 12, (.inl (fun kk => oI (((flp lf 12 mL mR (some r)).2) kk))))) rfl
            have hP : va_P D vwCl [(q, .inr (5, [.ref qa, .ref qb, .int w])), (qb, .inl (aI, 12, (.inl (fun kk => oI (lf kk))))), (k, .inr (2, [.ref ka, .ref kb, .int (nI n)])), (ka, .inl (aI, 12, (.inl (fun kk => oI (((flp lf 12 mL mR (some r)).1) kk))))), (kb, .inl (aI, 12, (.inl (fun kk => oI (((flp lf 12 mL mR (some r)).2) kk)))))] H := hP
            have hD : va_D A [(q, .inr (5, [.ref qa, .ref qb, .int w])), (qb, .inl (aI, 12, (.inl (fun kk => oI (lf kk))))), (k, .inr (2, [.ref ka, .ref kb, .int (nI n)])), (ka, .inl (aI, 12, (.inl (fun kk => oI (((flp lf 12 mL mR (some r)).1) kk))))), (kb, .inl (aI, 12, (.inl (fun kk => oI (((flp lf 12 mL mR (some r)).2) kk)))))] := hD
            have hl := lv_sub (l' := [(0, .ref q), (1, .int (nI r)), (2, .ref k)]) hl [0, 1, 2] rfl
            exact ih59  _ _ _ (by omega)  hP hD hS hl
          · rw [show oI none = (-1 : Int32) from rfl, cv_oN (fun v hv => by have := ho v hv; omega)] at c_14
            obtain ⟨v1, hv1⟩ := some_of c_14
            rw [hv1] at hl
            have hl : lv_has ls 7 [(0, .ref q), (1, .int (nI r)), (2, .ref k), (3, .int (nI v1)), (4, .int (nI i))] := hl
            refine lv_aload_n hx hb dX5_changePath_17 rfl (lv_at hl 0 rfl) ?_
            refine va_get (D := D) (ci := 5) (v := .ref qb) (C := RX5) (T := TX5) (N := 3) hx hb hts inX5 hown hK hP 0 rfl rfl 1 (by decide) L_15 (fun _ h9 => h9) rfl dX5_changePath_18 ?_
            refine lv_iload_n hx hb dX5_changePath_21 rfl (lv_at hl 3 rfl) ?_
            refine j_iald (v := oI (lf v1)) hx hb hK hP 1 0 rfl rfl (by have := ho _ hv1; omega) (by omega) (rfl) dX5_changePath_22 ?_
            refine lv_istore (lv' := [(5, .int (oI (lf v1))), (0, .ref q), (1, .int (nI r)), (2, .ref k), (3, .int (nI v1)), (4, .int (nI i))]) hx hb dX5_changePath_23 hl (by decide) rfl (fun ls hl => ?_)
            refine lv_iload hx hb dX5_changePath_25 (lv_at hl 0 rfl) ?_
            refine lv_iconst (v := oI none) hx hb dX5_changePath_27 (by decide) ?_
            refine lv_icmp_ne (tgt := 34) hx hb dX5_changePath_28 (by decide) (fun c_28 => ?_) (fun c_28 => ?_)
            · rw [show oI none = (-1 : Int32) from rfl, cv_oN (fun v hv => by have := hlf _ v hv; omega)] at c_28
              obtain ⟨v2, hv2⟩ := some_of c_28
              rw [hv2] at hl
              have hl : lv_has ls 7 [(5, .int (nI v2)), (0, .ref q), (1, .int (nI r)), (2, .ref k), (3, .int (nI v1)), (4, .int (nI i))] := hl
              refine lv_aload_n hx hb dX5_changePath_34 rfl (lv_at hl 3 rfl) ?_
              refine va_get (D := D) (ci := 2) (v := .ref ka) (C := RX2) (T := TX2) (N := 3) hx hb hts inX2 hown hK hP 2 rfl rfl 0 (by decide) L_68 (fun _ h9 => h9) rfl dX5_changePath_35 ?_
              refine lv_iload hx hb dX5_changePath_38 (lv_at hl 0 rfl) ?_
              refine j_iald (v := oI (m1 v2)) hx hb hK hP 3 0 rfl rfl (by have := hlf _ _ hv2; omega) (by omega) (rfl) dX5_changePath_40 ?_
              refine lv_istore (lv' := [(6, .int (oI (m1 v2))), (5, .int (nI v2)), (0, .ref q), (1, .int (nI r)), (2, .ref k), (3, .int (nI v1)), (4, .int (nI i))]) hx hb dX5_changePath_41 hl (by decide) rfl (fun ls hl => ?_)
              refine lv_aload_n hx hb dX5_changePath_43 rfl (lv_at hl 4 rfl) ?_
              refine lv_iload hx hb dX5_changePath_44 (lv_at hl 1 rfl) ?_
              refine lv_iload_n hx hb dX5_changePath_46 rfl (lv_at hl 5 rfl) ?_
              refine j_callv (va_runV (As := [.int (nI v2), .int (nI v1)]) (rest := []) C.fix (c_X2_join l D aI aJ aZ k ka kb m1 m2 v2 v1 (nI n) (show v2 < 12 from by exact hlf _ _ hv2) (show v1 < 12 from by exact ho _ hv1) H.size) (cwV 2 hts gX5_changePath_X2_join rfl rfl rfl (by decide +kernel) ⟨Nat.le_of_ble_eq_true rfl, Nat.le_of_ble_eq_true rfl⟩) (jPreV hN hK hP hD [2, 3, 4] rfl rfl (by decide) (ci := 2) (q0 := 2) rfl rfl) rfl rfl hl.1 rfl (lv_room (Nat.le_of_ble_eq_true rfl)) dX5_changePath_47 ⟨Nat.zero_le _, Nat.zero_le _⟩) hA hP hD hS [2, 3, 4] [0, 1] (wr := [(q, .inr (5, [.ref qa, .ref qb, .int w])), (qb, .inl (aI, 12, (.inl (fun kk => oI (lf kk)))))]) rfl rfl (by decide) (by decide) (fun u_47 H locs q_47 hP hD hS => ?_)
              have hP : va_P D vwCl [(q, .inr (5, [.ref qa, .ref qb, .int w])), (qb, .inl (aI, 12, (.inl (fun kk => oI (lf kk))))), (k, .inr (2, [.ref ka, .ref kb, .int (nI n)])), (ka, .inl (aI, 12, (.inl (fun kk => oI ((va_up m1 v2 (some v1)) kk))))), (kb, .inl (aI, 12, (.inl (fun kk => oI ((va_up m2 v1 (some v2)) kk)))))] H := hP
              have hD : va_D A [(q, .inr (5, [.ref qa, .ref qb, .int w])), (qb, .inl (aI, 12, (.inl (fun kk => oI (lf kk))))), (k, .inr (2, [.ref ka, .ref kb, .int (nI n)])), (ka, .inl (aI, 12, (.inl (fun kk => oI ((va_up m1 v2 (some v1)) kk))))), (kb, .inl (aI, 12, (.inl (fun kk => oI ((va_up m2 v1 (some v2)) kk)))))] := hD
              refine lv_iload hx hb dX5_changePath_50 (lv_at hl 0 rfl) ?_
              refine lv_istore_n (lv' := [(3, .int (oI (m1 v2))), (6, .int (oI (m1 v2))), (5, .int (nI v2)), (0, .ref q), (1, .int (nI r)), (2, .ref k), (4, .int (nI i))]) hx hb dX5_changePath_52 rfl hl (by decide) rfl (fun ls hl => ?_)
              refine lv_iinc (v := nI (i + 1)) (lv' := [(4, .int (nI (i + 1))), (3, .int (oI (m1 v2))), (6, .int (oI (m1 v2))), (5, .int (nI v2)), (0, .ref q), (1, .int (nI r)), (2, .ref k)]) hx hb dX5_changePath_53 hl (k := 6) rfl (inc_nI i 1) (by decide) rfl (fun ls hl => ?_)
              refine lv_goto (tgt := 5) hx hb dX5_changePath_56 (by decide) ?_
              have hl := lv_sub (l' := [(0, .ref q), (1, .int (nI r)), (2, .ref k), (3, .int (oI (m1 v2))), (4, .int (nI (i + 1)))]) hl [4, 5, 6, 1, 0] rfl
              exact ih5 (i + 1) (m1 v2) (va_up m1 v2 (some v1)) (va_up m2 v1 (some v2)) _ _ _ (by omega) (show (i + 1) ≤ 12 from by first | omega | assumption | rfl | (simp_all; done)) (show flp lf (12 - (i + 1)) (va_up m1 v2 (some v1)) (va_up m2 v1 (some v2)) (m1 v2) = (flp lf 12 mL mR (some r)) from by rw [← hR, hv1, flp_go lf m1 m2 (by omega) hv2]) (show ∀ v, (m1 v2) = some v → v < 12 from by exact fun v hv => hm1 _ v hv) (show ∀ k v, (va_up m1 v2 (some v1)) k = some v → v < 12 from by exact up_bd hm1 (ho _ hv1)) hP hD hS hl
            · rw [show oI none = (-1 : Int32) from rfl, cv_oN (fun v hv => by have := hlf _ v hv; omega)] at c_28
              rw [c_28] at hl
              have hl : lv_has ls 7 [(5, .int (oI none)), (0, .ref q), (1, .int (nI r)), (2, .ref k), (3, .int (nI v1)), (4, .int (nI i))] := hl
              refine lv_goto (tgt := 59) hx hb dX5_changePath_31 (by decide) ?_
              have hP := va_reA (g := fun kk => oI (((flp lf 12 mL mR (some r)).1) kk)) hP 3 rfl (fun kk hkk => by rw [← hR, hv1, flp_stop _ _ _ _ c_28])
              have hD := hD.set (p := 3) (e := .inl (aI, 12, (.inl (fun kk => oI (((flp lf 12 mL mR (some r)).1) kk))))) rfl
              have hP := va_reA (g := fun kk => oI (((flp lf 12 mL mR (some r)).2) kk)) hP 4 rfl (fun kk hkk => by rw [← hR, hv1, flp_stop _ _ _ _ c_28])
              have hD := hD.set (p := 4) (e := .inl (aI, 12, (.inl (fun kk => oI (((flp lf 12 mL mR (some r)).2) kk))))) rfl
              have hP : va_P D vwCl [(q, .inr (5, [.ref qa, .ref qb, .int w])), (qb, .inl (aI, 12, (.inl (fun kk => oI (lf kk))))), (k, .inr (2, [.ref ka, .ref kb, .int (nI n)])), (ka, .inl (aI, 12, (.inl (fun kk => oI (((flp lf 12 mL mR (some r)).1) kk))))), (kb, .inl (aI, 12, (.inl (fun kk => oI (((flp lf 12 mL mR (some r)).2) kk)))))] H := hP
              have hD : va_D A [(q, .inr (5, [.ref qa, .ref qb, .int w])), (qb, .inl (aI, 12, (.inl (fun kk => oI (lf kk))))), (k, .inr (2, [.ref ka, .ref kb, .int (nI n)])), (ka, .inl (aI, 12, (.inl (fun kk => oI (((flp lf 12 mL mR (some r)).1) kk))))), (kb, .inl (aI, 12, (.inl (fun kk => oI (((flp lf 12 mL mR (some r)).2) kk)))))] := hD
              have hl := lv_sub (l' := [(0, .ref q), (1, .int (nI r)), (2, .ref k)]) hl [1, 2, 3] rfl
              exact ih59  _ _ _ (by omega)  hP hD hS hl
      · intro  H locs ls hmeas  hP hD hS hl
        refine lv_aload_n hx hb dX5_changePath_59 rfl (lv_at hl 2 rfl) ?_
        refine lv_dup hx hb dX5_changePath_60 rfl ?_
        refine va_get (D := D) (ci := 2) (v := .int (nI n)) (C := RX2) (T := TX2) (N := 3) hx hb hts inX2 hown hK hP 2 rfl rfl 2 (by decide) L_75 (fun _ h9 => h9) rfl dX5_changePath_61 ?_
        refine lv_iconst (v := nI 1) hx hb dX5_changePath_64 (by decide) ?_
        refine lv_iadd hx hb dX5_changePath_65 ?_
        refine j_topi (y := (nI (n + 1))) (nI_add _ _) ?_
        refine va_put (D := D) (ci := 2) (v := .int (nI (n + 1))) (ty := .int) (C := RX2) (T := TX2) (N := 3) hx hb hts inX2 tyX2 tyX2_ok nmX2 hown hK hP hD hS 2 rfl rfl 2 (by decide) L_75 (fun _ h9 => h9) rfl (by decide +kernel) rfl rfl (Nat.le_of_ble_eq_true rfl) dX5_changePath_66 (fun H locs hP hD hS => ?_)
        have hP : va_P D vwCl [(q, .inr (5, [.ref qa, .ref qb, .int w])), (qb, .inl (aI, 12, (.inl (fun kk => oI (lf kk))))), (k, .inr (2, [.ref ka, .ref kb, .int (nI (n + 1))])), (ka, .inl (aI, 12, (.inl (fun kk => oI (((flp lf 12 mL mR (some r)).1) kk))))), (kb, .inl (aI, 12, (.inl (fun kk => oI (((flp lf 12 mL mR (some r)).2) kk)))))] H := hP
        have hD : va_D A [(q, .inr (5, [.ref qa, .ref qb, .int w])), (qb, .inl (aI, 12, (.inl (fun kk => oI (lf kk))))), (k, .inr (2, [.ref ka, .ref kb, .int (nI (n + 1))])), (ka, .inl (aI, 12, (.inl (fun kk => oI (((flp lf 12 mL mR (some r)).1) kk))))), (kb, .inl (aI, 12, (.inl (fun kk => oI (((flp lf 12 mL mR (some r)).2) kk)))))] := hD
        exact j_vret (w1 := fun u => w_X5_changePath_o aI aJ aZ q qa qb k ka kb lf mL mR r n w u) (post := p_X5_changePath lf mL mR r n w) C () hP hD hS trivial dX5_changePath_69
  have hl : lv_has ls 7 [(0, .ref q), (1, .int (nI r)), (2, .ref k)] := hl
  refine lv_iload_n hx hb dX5_changePath_0 rfl (lv_at hl 1 rfl) ?_
  refine lv_istore_n (lv' := [(3, .int (nI r)), (0, .ref q), (1, .int (nI r)), (2, .ref k)]) hx hb dX5_changePath_1 rfl hl (by decide) rfl (fun ls hl => ?_)
  refine lv_iconst (v := nI 0) hx hb dX5_changePath_2 (by decide) ?_
  refine lv_istore (lv' := [(4, .int (nI 0)), (3, .int (nI r)), (0, .ref q), (1, .int (nI r)), (2, .ref k)]) hx hb dX5_changePath_3 hl (by decide) rfl (fun ls hl => ?_)
  have hl := lv_sub (l' := [(0, .ref q), (1, .int (nI r)), (2, .ref k), (3, .int (nI r)), (4, .int (nI 0))]) hl [2, 3, 4, 1, 0] rfl
  have hl : lv_has ls 7 [(0, .ref q), (1, .int (nI r)), (2, .ref k), (3, .int (oI (some r))), (4, .int (nI 0))] := hl
  exact (key _).1 0 (some r) mL mR _ _ _ (Nat.lt_succ_self _) (show 0 ≤ 12 from by first | omega | assumption | rfl | (simp_all; done)) (show flp lf (12 - 0) mL mR (some r) = (flp lf 12 mL mR (some r)) from by rfl) (show ∀ v, (some r) = some v → v < 12 from by intro v hv; cases hv; exact hr1) (show ∀ k v, mL k = some v → v < 12 from by exact hmL) hP hD hS hl
