abbrev w_X6_holds_o (aI aJ aZ : ClassId)  (a : Nat) (i : Nat) (uu0 : Unit) : va_W := []
abbrev p_X6_holds (a : Nat) (i : Nat) (rr0 : Int32) (uu0 : Unit) : Prop := rr0 = bI (a.testBit i) ∧ (True)
set_option maxHeartbeats 4000000 in
set_option maxRecDepth 100000 in
theorem c_X6_holds (l : Launch) (D : va_G) (aI aJ aZ : ClassId)  (a : Nat) (i : Nat) (ha : a < 2 ^ 31) (hi : i < 31) (sz : Nat) : Met l yX6_holds wsX6_holds ({ frames := 0, cells := 0, slots := 0, locals := 0 }) (va_Pc [.int (nI a), .int (nI i)] (jI D (jT aI aJ aZ) [] sz)) (va_Qi (S := Unit) (p_X6_holds a i) (fun u t => jO D (jT aI aJ aZ) (va_A [] sz) (w_X6_holds_o aI aJ aZ a i u) t) (va_A [] sz)) 0 0 (va_A [] sz) := by
  refine j_of (Qc := fun A => va_Qi (S := Unit) (p_X6_holds a i) (fun u t => jO D (jT aI aJ aZ) A (w_X6_holds_o aI aJ aZ a i u) t) A) (own := RX6) (nm := "holds") (by decide +kernel) rfl rfl rfl (Nat.le_of_ble_eq_true rfl) ?_
  intro p e s m below meth c A ls H locs C hP hD hS hl
  obtain ⟨hx, hb, hml, hown, hts, hK, hA, hlocks, hr, hn, hN⟩ := id C
  have hl : lv_has ls 2 [(0, .int (nI a)), (1, .int (nI i))] := hl
  refine lv_iload_n hx hb dX6_holds_0 rfl (lv_at hl 0 rfl) ?_
  refine lv_iload_n hx hb dX6_holds_1 rfl (lv_at hl 1 rfl) ?_
  refine lv_ishr hx hb dX6_holds_2 ?_
  refine j_topi (y := (nI (a >>> i))) (nI_shr (by omega) (by omega)) ?_
  refine lv_iconst (v := nI 1) hx hb dX6_holds_3 (by decide) ?_
  refine lv_iand hx hb dX6_holds_4 ?_
  refine j_topi (y := (nI ((a >>> i) &&& 1))) (fa_and _ _) ?_
  refine lv_if_eq (tgt := 12) hx hb dX6_holds_5 (by decide) (fun c_5 => ?_) (fun c_5 => ?_)
  · rw [cv_eq0 (and1_lt _), hold_bit] at c_5
    refine lv_iconst (v := nI 0) hx hb dX6_holds_12 (by decide) ?_
    have eV : nI 0 = bI (a.testBit i) := by rw [c_5]; rfl
    exact j_zret (w1 := fun u => w_X6_holds_o aI aJ aZ a i u) (post := p_X6_holds a i) C () (a.testBit i) eV hP hD hS ⟨rfl, trivial⟩ dX6_holds_13
  · rw [cv_eq0 (and1_lt _), hold_bit] at c_5
    refine lv_iconst (v := nI 1) hx hb dX6_holds_8 (by decide) ?_
    refine lv_goto (tgt := 13) hx hb dX6_holds_9 (by decide) ?_
    have eV : nI 1 = bI (a.testBit i) := by rw [Bool.not_eq_false] at c_5; rw [c_5]; rfl
    exact j_zret (w1 := fun u => w_X6_holds_o aI aJ aZ a i u) (post := p_X6_holds a i) C () (a.testBit i) eV hP hD hS ⟨rfl, trivial⟩ dX6_holds_13
abbrev w_X1_has_o (aI aJ aZ : ClassId) (q a b : Nat) (E : Nat → Nat → Bool) (nl : Nat) (nr : Nat) (ne : Nat) (x : Nat) (y : Nat) (uu0 : Unit) : va_W := [(q, .inr (1, [.ref a, .ref b, .int (nI nl), .int (nI nr), .int (nI ne)])), (a, .inl (aI, 12, (.inl (fun kk => nI (mk (E kk))))))]
abbrev p_X1_has (E : Nat → Nat → Bool) (nl : Nat) (nr : Nat) (ne : Nat) (x : Nat) (y : Nat) (rr0 : Int32) (uu0 : Unit) : Prop := rr0 = bI (E x y) ∧ (True)
set_option maxHeartbeats 4000000 in
set_option maxRecDepth 100000 in
theorem c_X1_has (l : Launch) (D : va_G) (aI aJ aZ : ClassId) (q a b : Nat) (E : Nat → Nat → Bool) (nl : Nat) (nr : Nat) (ne : Nat) (x : Nat) (y : Nat) (hx1 : x < 12) (hy1 : y < 12) (sz : Nat) : Met l yX1_has wsX1_has ({ frames := 1, cells := 0, slots := 0, locals := 21 }) (va_Pc [.ref q, .int (nI x), .int (nI y)] (jI D (jT aI aJ aZ) [(q, .inr (1, [.ref a, .ref b, .int (nI nl), .int (nI nr), .int (nI ne)])), (a, .inl (aI, 12, (.inl (fun kk => nI (mk (E kk))))))] sz)) (va_Qi (S := Unit) (p_X1_has E nl nr ne x y) (fun u t => jO D (jT aI aJ aZ) (va_A [(q, .inr (1, [.ref a, .ref b, .int (nI nl), .int (nI nr), .int (nI ne)])), (a, .inl (aI, 12, (.inl (fun kk => nI (mk (E kk))))))] sz) (w_X1_has_o aI aJ aZ q a b E nl nr ne x y u) t) (va_A [(q, .inr (1, [.ref a, .ref b, .int (nI nl), .int (nI nr), .int (nI ne)])), (a, .inl (aI, 12, (.inl (fun kk => nI (mk (E kk))))))] sz)) 0 0 (va_A [(q, .inr (1, [.ref a, .ref b, .int (nI nl), .int (nI nr), .int (nI ne)])), (a, .inl (aI, 12, (.inl (fun kk => nI (mk (E kk))))))] sz) := by
  refine j_of (Qc := fun A => va_Qi (S := Unit) (p_X1_has E nl nr ne x y) (fun u t => jO D (jT aI aJ aZ) A (w_X1_has_o aI aJ aZ q a b E nl nr ne x y u) t) A) (own := RX1) (nm := "has") (by decide +kernel) rfl rfl rfl (Nat.le_of_ble_eq_true rfl) ?_
  intro p e s m below meth c A ls H locs C hP hD hS hl
  obtain ⟨hx, hb, hml, hown, hts, hK, hA, hlocks, hr, hn, hN⟩ := id C
  have L_9 := hts (.fieldLink RX1 9 "Phasehall$Graph" "rightsOf" "[I") (List.mem_of_getElem? (i := 1) rfl)
  have inX1 : ∀ w ∈ wsX10, w ∈ wsX1_has := fun _ h => List.mem_cons_of_mem _ (List.mem_append_right _ h)
  have hl : lv_has ls 3 [(0, .ref q), (1, .int (nI x)), (2, .int (nI y))] := hl
  refine lv_aload_n hx hb dX1_has_0 rfl (lv_at hl 0 rfl) ?_
  refine va_get (D := D) (ci := 1) (v := .ref a) (C := RX1) (T := TX1) (N := 5) hx hb hts inX1 hown hK hP 0 rfl rfl 0 (by decide) L_9 (fun _ h9 => h9) rfl dX1_has_1 ?_
  refine lv_iload_n hx hb dX1_has_4 rfl (lv_at hl 1 rfl) ?_
  refine j_iald (v := nI (mk (E x))) hx hb hK hP 1 0 rfl rfl (by omega) (by omega) (rfl) dX1_has_5 ?_
  refine lv_iload_n hx hb dX1_has_6 rfl (lv_at hl 2 rfl) ?_
  refine j_calli (va_runSN (As := [.int (nI (mk (E x))), .int (nI y)]) (rest := []) C.fix (c_X6_holds l D aI aJ aZ (mk (E x)) y (show (mk (E x)) < 2 ^ 31 from by exact Nat.lt_trans (mk_lt _) (by decide)) (show y < 31 from by first | omega | assumption | rfl | (simp_all; done)) H.size) ⟨(va_cnB 2 hts gX1_has_X6_holds_n18 rfl rfl rfl (hN (RX1, 18, yX6_holds) (by decide +kernel)) (hts (.initialized RX6) (List.mem_of_getElem? (i := 3) rfl)) (by decide +kernel) ⟨Nat.le_of_ble_eq_true rfl, Nat.le_of_ble_eq_true rfl⟩), (hts (.static yX6_holds) (List.mem_of_getElem? (i := 2) rfl)), trivial⟩ (jPreS hN hK hP hD [] rfl rfl (by decide)) rfl rfl hl.1 rfl (lv_room (Nat.le_of_ble_eq_true rfl)) dX1_has_7 ⟨Nat.zero_le _, Nat.zero_le _⟩) hA hP hD hS [] [0, 1] (wr := [(q, .inr (1, [.ref a, .ref b, .int (nI nl), .int (nI nr), .int (nI ne)])), (a, .inl (aI, 12, (.inl (fun kk => nI (mk (E kk))))))]) rfl rfl (by decide) (by decide) (fun r_7 u_7 H locs q_7 hP hD hS => ?_)
  obtain ⟨rfl, -⟩ := q_7
  have hP : va_P D vwCl [(q, .inr (1, [.ref a, .ref b, .int (nI nl), .int (nI nr), .int (nI ne)])), (a, .inl (aI, 12, (.inl (fun kk => nI (mk (E kk))))))] H := hP
  have hD : va_D A [(q, .inr (1, [.ref a, .ref b, .int (nI nl), .int (nI nr), .int (nI ne)])), (a, .inl (aI, 12, (.inl (fun kk => nI (mk (E kk))))))] := hD
  refine j_topi (y := (bI (E x y))) (by rw [mk_tb' _ hy1]) ?_
  exact j_zret (w1 := fun u => w_X1_has_o aI aJ aZ q a b E nl nr ne x y u) (post := p_X1_has E nl nr ne x y) C () (E x y) rfl hP hD hS ⟨rfl, trivial⟩ dX1_has_10
abbrev w_X2_freeOf_o (aI aJ aZ : ClassId) (q : Nat) (pt : Nat → Option Nat) (n : Nat) (uu0 : Unit) : va_W := [(q, .inl (aI, 12, (.inl (fun kk => oI (pt kk)))))]
abbrev p_X2_freeOf (pt : Nat → Option Nat) (n : Nat) (rr0 : Int32) (uu0 : Unit) : Prop := rr0 = nI (mk (fun z => decide (z < n) && (pt z).isNone)) ∧ (True)
set_option maxHeartbeats 4000000 in
set_option maxRecDepth 100000 in
theorem c_X2_freeOf (l : Launch) (D : va_G) (aI aJ aZ : ClassId) (q : Nat) (pt : Nat → Option Nat) (n : Nat) (hn : n ≤ 12) (hp : ∀ k v, pt k = some v → v < 2 ^ 31) (sz : Nat) : Met l yX2_freeOf wsX2_freeOf ({ frames := 0, cells := 0, slots := 0, locals := 0 }) (va_Pc [.ref q, .int (nI n)] (jI D (jT aI aJ aZ) [(q, .inl (aI, 12, (.inl (fun kk => oI (pt kk)))))] sz)) (va_Qi (S := Unit) (p_X2_freeOf pt n) (fun u t => jO D (jT aI aJ aZ) (va_A [(q, .inl (aI, 12, (.inl (fun kk => oI (pt kk)))))] sz) (w_X2_freeOf_o aI aJ aZ q pt n u) t) (va_A [(q, .inl (aI, 12, (.inl (fun kk => oI (pt kk)))))] sz)) 0 0 (va_A [(q, .inl (aI, 12, (.inl (fun kk => oI (pt kk)))))] sz) := by
  refine j_of (Qc := fun A => va_Qi (S := Unit) (p_X2_freeOf pt n) (fun u t => jO D (jT aI aJ aZ) A (w_X2_freeOf_o aI aJ aZ q pt n u) t) A) (own := RX2) (nm := "freeOf") (by decide +kernel) rfl rfl rfl (Nat.le_of_ble_eq_true rfl) ?_
  intro p e s m below meth c A ls H locs C hP hD hS hl
  obtain ⟨hx, hb, hml, hown, hts, hK, hA, hlocks, hr, hn, hN⟩ := id C
  have key : ∀ N : Nat, (∀ (i : Nat) (H : Heap) (locs : List Loc) (ls : Array Slot), (13 - i) < N → (i ≤ n) → va_P D vwCl [(q, .inl (aI, 12, (.inl (fun kk => oI (pt kk)))))] H → va_D A [(q, .inl (aI, 12, (.inl (fun kk => oI (pt kk)))))] → va_S A s.heap H locs → lv_has ls 4 [(0, .ref q), (1, .int (nI n)), (2, .int (nI (mk (fun z => decide (z < i) && (pt z).isNone)))), (3, .int (nI i))] → W p l e ({ frames := 0, cells := 0, slots := 0, locals := 0 }) s m ([.ref q, .int (nI n)] : List Value).toArray below meth c H locs 0 0 (MQ below (va_Qi (S := Unit) (p_X2_freeOf pt n) (fun u t => jO D (jT aI aJ aZ) A (w_X2_freeOf_o aI aJ aZ q pt n u) t) A) ([.ref q, .int (nI n)] : List Value).toArray s 0 0 A) (F0 m 4 ls [])) := by
    intro N
    induction N with
    | zero => exact fun _ _ _ _ h => absurd h (Nat.not_lt_zero _)
    | succ N ih =>
      have ih4 := ih
      intro i H locs ls hmeas hi hP hD hS hl
      refine lv_iload_n hx hb dX2_freeOf_4 rfl (lv_at hl 3 rfl) ?_
      refine lv_iload_n hx hb dX2_freeOf_5 rfl (lv_at hl 1 rfl) ?_
      refine lv_icmp_ge (tgt := 28) hx hb dX2_freeOf_6 (by decide) (fun c_6 => ?_) (fun c_6 => ?_)
      · rw [cv_le (by omega) (by omega)] at c_6
        refine lv_iload_n hx hb dX2_freeOf_28 rfl (lv_at hl 2 rfl) ?_
        have eV : nI (mk (fun z => decide (z < i) && (pt z).isNone)) = nI (mk (fun z => decide (z < n) && (pt z).isNone)) := by rw [show i = n by omega]
        exact j_iret (w1 := fun u => w_X2_freeOf_o aI aJ aZ q pt n u) (post := p_X2_freeOf pt n) C () hP hD hS ⟨eV, trivial⟩ dX2_freeOf_29
      · rw [cv_le (by omega) (by omega)] at c_6
        refine lv_aload_n hx hb dX2_freeOf_9 rfl (lv_at hl 0 rfl) ?_
        refine lv_iload_n hx hb dX2_freeOf_10 rfl (lv_at hl 3 rfl) ?_
        refine j_iald (v := oI (pt i)) hx hb hK hP 0 0 rfl rfl (by omega) (by omega) (rfl) dX2_freeOf_11 ?_
        refine lv_iconst (v := oI none) hx hb dX2_freeOf_12 (by decide) ?_
        refine lv_icmp_ne (tgt := 22) hx hb dX2_freeOf_13 (by decide) (fun c_13 => ?_) (fun c_13 => ?_)
        · rw [show oI none = (-1 : Int32) from rfl, cv_oN (fun v hv => hp _ v hv)] at c_13
          obtain ⟨v1, hv1⟩ := some_of c_13
          refine lv_iinc (v := nI (i + 1)) (lv' := [(3, .int (nI (i + 1))), (0, .ref q), (1, .int (nI n)), (2, .int (nI (mk (fun z => decide (z < i) && (pt z).isNone))))]) hx hb dX2_freeOf_22 hl (k := 3) rfl (inc_nI i 1) (by decide) rfl (fun ls hl => ?_)
          refine lv_goto (tgt := 4) hx hb dX2_freeOf_25 (by decide) ?_
          have hl := lv_sub (l' := [(0, .ref q), (1, .int (nI n)), (2, .int (nI (mk (fun z => decide (z < i) && (pt z).isNone)))), (3, .int (nI (i + 1)))]) hl [1, 2, 3, 0] rfl
          have hl := lv_re hl 2 rfl (show (.int (nI (mk (fun z => decide (z < i) && (pt z).isNone))) : Value) = .int (nI (mk (fun z => decide (z < (i + 1)) && (pt z).isNone))) from congrArg _ (by first | (exact (congrArg nI (mk_0 (fun i _ => by simp))).symm) | exact congrArg nI (mk_congr (fun z hz => by rw [Bool.eq_iff_iff]; simp; by_cases e : z = i <;> simp_all; omega))))
          have hl : lv_has ls 4 [(0, .ref q), (1, .int (nI n)), (2, .int (nI (mk (fun z => decide (z < (i + 1)) && (pt z).isNone)))), (3, .int (nI (i + 1)))] := hl
          exact ih4 (i + 1) _ _ _ (by omega) (show (i + 1) ≤ n from by first | omega | assumption | rfl | (simp_all; done)) hP hD hS hl
        · rw [show oI none = (-1 : Int32) from rfl, cv_oN (fun v hv => hp _ v hv)] at c_13
          refine lv_iload_n hx hb dX2_freeOf_16 rfl (lv_at hl 2 rfl) ?_
          refine lv_iconst (v := nI 1) hx hb dX2_freeOf_17 (by decide) ?_
          refine lv_iload_n hx hb dX2_freeOf_18 rfl (lv_at hl 3 rfl) ?_
          refine lv_ishl hx hb dX2_freeOf_19 ?_
          refine j_topi (y := (nI (2 ^ i))) (one_shl (by omega)) ?_
          refine lv_ior hx hb dX2_freeOf_20 ?_
          refine j_topi (y := (nI (mk (fun z => (decide (z < i) && (pt z).isNone) || decide (z = i))))) (by rw [fa_or, mk_or_bit _ (by omega)]) ?_
          refine lv_istore_n (lv' := [(2, .int (nI (mk (fun z => (decide (z < i) && (pt z).isNone) || decide (z = i))))), (0, .ref q), (1, .int (nI n)), (3, .int (nI i))]) hx hb dX2_freeOf_21 rfl hl (by decide) rfl (fun ls hl => ?_)
          refine lv_iinc (v := nI (i + 1)) (lv' := [(3, .int (nI (i + 1))), (2, .int (nI (mk (fun z => (decide (z < i) && (pt z).isNone) || decide (z = i))))), (0, .ref q), (1, .int (nI n))]) hx hb dX2_freeOf_22 hl (k := 3) rfl (inc_nI i 1) (by decide) rfl (fun ls hl => ?_)
          refine lv_goto (tgt := 4) hx hb dX2_freeOf_25 (by decide) ?_
          have hl := lv_sub (l' := [(0, .ref q), (1, .int (nI n)), (2, .int (nI (mk (fun z => (decide (z < i) && (pt z).isNone) || decide (z = i))))), (3, .int (nI (i + 1)))]) hl [2, 3, 1, 0] rfl
          have hl := lv_re hl 2 rfl (show (.int (nI (mk (fun z => (decide (z < i) && (pt z).isNone) || decide (z = i)))) : Value) = .int (nI (mk (fun z => decide (z < (i + 1)) && (pt z).isNone))) from congrArg _ (by first | (exact (congrArg nI (mk_0 (fun i _ => by simp))).symm) | exact congrArg nI (mk_congr (fun z hz => by rw [Bool.eq_iff_iff]; simp; by_cases e : z = i <;> simp_all; omega))))
          have hl : lv_has ls 4 [(0, .ref q), (1, .int (nI n)), (2, .int (nI (mk (fun z => decide (z < (i + 1)) && (pt z).isNone)))), (3, .int (nI (i + 1)))] := hl
          exact ih4 (i + 1) _ _ _ (by omega) (show (i + 1) ≤ n from by first | omega | assumption | rfl | (simp_all; done)) hP hD hS hl
  have hl : lv_has ls 4 [(0, .ref q), (1, .int (nI n))] := hl
  refine lv_iconst (v := nI 0) hx hb dX2_freeOf_0 (by decide) ?_
  refine lv_istore_n (lv' := [(2, .int (nI 0)), (0, .ref q), (1, .int (nI n))]) hx hb dX2_freeOf_1 rfl hl (by decide) rfl (fun ls hl => ?_)
  refine lv_iconst (v := nI 0) hx hb dX2_freeOf_2 (by decide) ?_
  refine lv_istore_n (lv' := [(3, .int (nI 0)), (2, .int (nI 0)), (0, .ref q), (1, .int (nI n))]) hx hb dX2_freeOf_3 rfl hl (by decide) rfl (fun ls hl => ?_)
  have hl := lv_sub (l' := [(0, .ref q), (1, .int (nI n)), (2, .int (nI 0)), (3, .int (nI 0))]) hl [2, 3, 1, 0] rfl
  have hl := lv_re hl 2 rfl (show (.int (nI 0) : Value) = .int (nI (mk (fun z => decide (z < 0) && (pt z).isNone))) from congrArg _ (by first | (exact (congrArg nI (mk_0 (fun i _ => by simp))).symm) | exact congrArg nI (mk_congr (fun z hz => by rw [Bool.eq_iff_iff]; simp; by_cases e : z = i <;> simp_all; omega))))
  have hl : lv_has ls 4 [(0, .ref q), (1, .int (nI n)), (2, .int (nI (mk (fun z => decide (z < 0) && (pt z).isNone)))), (3, .int (nI 0))] := hl
  exact (key _) 0 _ _ _ (Nat.lt_succ_self _) (show 0 ≤ n from by first | omega | assumption | rfl | (simp_all; done)) hP hD hS hl
abbrev w_X2_freeLefts_o (aI aJ aZ : ClassId) (q a b : Nat) (pt : Nat → Option Nat) (n : Nat) (pr : Int32) (uu0 : Unit) : va_W := [(q, .inr (2, [.ref a, .ref b, .int pr])), (a, .inl (aI, 12, (.inl (fun kk => oI (pt kk)))))]
abbrev p_X2_freeLefts (pt : Nat → Option Nat) (n : Nat) (pr : Int32) (rr0 : Int32) (uu0 : Unit) : Prop := rr0 = nI (mk (fun z => decide (z < n) && (pt z).isNone)) ∧ (True)
set_option maxHeartbeats 4000000 in
set_option maxRecDepth 100000 in
theorem c_X2_freeLefts (l : Launch) (D : va_G) (aI aJ aZ : ClassId) (q a b : Nat) (pt : Nat → Option Nat) (n : Nat) (pr : Int32) (hn0 : n ≤ 12) (hp : ∀ k v, pt k = some v → v < 2 ^ 31) (sz : Nat) : Met l yX2_freeLefts wsX2_freeLefts ({ frames := 1, cells := 0, slots := 0, locals := 23 }) (va_Pc [.ref q, .int (nI n)] (jI D (jT aI aJ aZ) [(q, .inr (2, [.ref a, .ref b, .int pr])), (a, .inl (aI, 12, (.inl (fun kk => oI (pt kk)))))] sz)) (va_Qi (S := Unit) (p_X2_freeLefts pt n pr) (fun u t => jO D (jT aI aJ aZ) (va_A [(q, .inr (2, [.ref a, .ref b, .int pr])), (a, .inl (aI, 12, (.inl (fun kk => oI (pt kk)))))] sz) (w_X2_freeLefts_o aI aJ aZ q a b pt n pr u) t) (va_A [(q, .inr (2, [.ref a, .ref b, .int pr])), (a, .inl (aI, 12, (.inl (fun kk => oI (pt kk)))))] sz)) 0 0 (va_A [(q, .inr (2, [.ref a, .ref b, .int pr])), (a, .inl (aI, 12, (.inl (fun kk => oI (pt kk)))))] sz) := by
  refine j_of (Qc := fun A => va_Qi (S := Unit) (p_X2_freeLefts pt n pr) (fun u t => jO D (jT aI aJ aZ) A (w_X2_freeLefts_o aI aJ aZ q a b pt n pr u) t) A) (own := RX2) (nm := "freeLefts") (by decide +kernel) rfl rfl rfl (Nat.le_of_ble_eq_true rfl) ?_
  intro p e s m below meth c A ls H locs C hP hD hS hl
  obtain ⟨hx, hb, hml, hown, hts, hK, hA, hlocks, hr, hn, hN⟩ := id C
  have L_9 := hts (.fieldLink RX2 9 "Phasehall$Matching" "ofLeft" "[I") (List.mem_of_getElem? (i := 1) rfl)
  have inX2 : ∀ w ∈ wsX20, w ∈ wsX2_freeLefts := fun _ h => List.mem_cons_of_mem _ (List.mem_append_right _ h)
  have hl : lv_has ls 2 [(0, .ref q), (1, .int (nI n))] := hl
  refine lv_aload_n hx hb dX2_freeLefts_0 rfl (lv_at hl 0 rfl) ?_
  refine va_get (D := D) (ci := 2) (v := .ref a) (C := RX2) (T := TX2) (N := 3) hx hb hts inX2 hown hK hP 0 rfl rfl 0 (by decide) L_9 (fun _ h9 => h9) rfl dX2_freeLefts_1 ?_
  refine lv_iload_n hx hb dX2_freeLefts_4 rfl (lv_at hl 1 rfl) ?_
  refine j_calli (va_runS (As := [.ref a, .int (nI n)]) (rest := []) C.fix (c_X2_freeOf l D aI aJ aZ a pt n (show n ≤ 12 from by first | omega | assumption | rfl | (simp_all; done)) (show ∀ k v, pt k = some v → v < 2 ^ 31 from by first | omega | assumption | rfl | (simp_all; done)) H.size) (va_cwS 2 hts gX2_freeLefts_X2_freeOf rfl rfl rfl (by decide +kernel) ⟨Nat.le_of_ble_eq_true rfl, Nat.le_of_ble_eq_true rfl⟩) (jPreS hN hK hP hD [1] rfl rfl (by decide)) rfl rfl hl.1 rfl (lv_room (Nat.le_of_ble_eq_true rfl)) dX2_freeLefts_5 ⟨Nat.zero_le _, Nat.zero_le _⟩) hA hP hD hS [1] [0] (wr := [(q, .inr (2, [.ref a, .ref b, .int pr]))]) rfl rfl (by decide) (by decide) (fun r_5 u_5 H locs q_5 hP hD hS => ?_)
  obtain ⟨rfl, -⟩ := q_5
  have hP : va_P D vwCl [(q, .inr (2, [.ref a, .ref b, .int pr])), (a, .inl (aI, 12, (.inl (fun kk => oI (pt kk)))))] H := hP
  have hD : va_D A [(q, .inr (2, [.ref a, .ref b, .int pr])), (a, .inl (aI, 12, (.inl (fun kk => oI (pt kk)))))] := hD
  exact j_iret (w1 := fun u => w_X2_freeLefts_o aI aJ aZ q a b pt n pr u) (post := p_X2_freeLefts pt n pr) C () hP hD hS ⟨rfl, trivial⟩ dX2_freeLefts_8
abbrev w_X2_freeRights_o (aI aJ aZ : ClassId) (q a b : Nat) (pt : Nat → Option Nat) (n : Nat) (pr : Int32) (uu0 : Unit) : va_W := [(q, .inr (2, [.ref a, .ref b, .int pr])), (b, .inl (aI, 12, (.inl (fun kk => oI (pt kk)))))]
abbrev p_X2_freeRights (pt : Nat → Option Nat) (n : Nat) (pr : Int32) (rr0 : Int32) (uu0 : Unit) : Prop := rr0 = nI (mk (fun z => decide (z < n) && (pt z).isNone)) ∧ (True)
set_option maxHeartbeats 4000000 in
set_option maxRecDepth 100000 in
theorem c_X2_freeRights (l : Launch) (D : va_G) (aI aJ aZ : ClassId) (q a b : Nat) (pt : Nat → Option Nat) (n : Nat) (pr : Int32) (hn0 : n ≤ 12) (hp : ∀ k v, pt k = some v → v < 2 ^ 31) (sz : Nat) : Met l yX2_freeRights wsX2_freeRights ({ frames := 1, cells := 0, slots := 0, locals := 23 }) (va_Pc [.ref q, .int (nI n)] (jI D (jT aI aJ aZ) [(q, .inr (2, [.ref a, .ref b, .int pr])), (b, .inl (aI, 12, (.inl (fun kk => oI (pt kk)))))] sz)) (va_Qi (S := Unit) (p_X2_freeRights pt n pr) (fun u t => jO D (jT aI aJ aZ) (va_A [(q, .inr (2, [.ref a, .ref b, .int pr])), (b, .inl (aI, 12, (.inl (fun kk => oI (pt kk)))))] sz) (w_X2_freeRights_o aI aJ aZ q a b pt n pr u) t) (va_A [(q, .inr (2, [.ref a, .ref b, .int pr])), (b, .inl (aI, 12, (.inl (fun kk => oI (pt kk)))))] sz)) 0 0 (va_A [(q, .inr (2, [.ref a, .ref b, .int pr])), (b, .inl (aI, 12, (.inl (fun kk => oI (pt kk)))))] sz) := by
  refine j_of (Qc := fun A => va_Qi (S := Unit) (p_X2_freeRights pt n pr) (fun u t => jO D (jT aI aJ aZ) A (w_X2_freeRights_o aI aJ aZ q a b pt n pr u) t) A) (own := RX2) (nm := "freeRights") (by decide +kernel) rfl rfl rfl (Nat.le_of_ble_eq_true rfl) ?_
  intro p e s m below meth c A ls H locs C hP hD hS hl
  obtain ⟨hx, hb, hml, hown, hts, hK, hA, hlocks, hr, hn, hN⟩ := id C
  have L_15 := hts (.fieldLink RX2 15 "Phasehall$Matching" "ofRight" "[I") (List.mem_of_getElem? (i := 1) rfl)
  have inX2 : ∀ w ∈ wsX20, w ∈ wsX2_freeRights := fun _ h => List.mem_cons_of_mem _ (List.mem_append_right _ h)
  have hl : lv_has ls 2 [(0, .ref q), (1, .int (nI n))] := hl
  refine lv_aload_n hx hb dX2_freeRights_0 rfl (lv_at hl 0 rfl) ?_
  refine va_get (D := D) (ci := 2) (v := .ref b) (C := RX2) (T := TX2) (N := 3) hx hb hts inX2 hown hK hP 0 rfl rfl 1 (by decide) L_15 (fun _ h9 => h9) rfl dX2_freeRights_1 ?_
  refine lv_iload_n hx hb dX2_freeRights_4 rfl (lv_at hl 1 rfl) ?_
  refine j_calli (va_runS (As := [.ref b, .int (nI n)]) (rest := []) C.fix (c_X2_freeOf l D aI aJ aZ b pt n (show n ≤ 12 from by first | omega | assumption | rfl | (simp_all; done)) (show ∀ k v, pt k = some v → v < 2 ^ 31 from by first | omega | assumption | rfl | (simp_all; done)) H.size) (va_cwS 2 hts gX2_freeRights_X2_freeOf rfl rfl rfl (by decide +kernel) ⟨Nat.le_of_ble_eq_true rfl, Nat.le_of_ble_eq_true rfl⟩) (jPreS hN hK hP hD [1] rfl rfl (by decide)) rfl rfl hl.1 rfl (lv_room (Nat.le_of_ble_eq_true rfl)) dX2_freeRights_5 ⟨Nat.zero_le _, Nat.zero_le _⟩) hA hP hD hS [1] [0] (wr := [(q, .inr (2, [.ref a, .ref b, .int pr]))]) rfl rfl (by decide) (by decide) (fun r_5 u_5 H locs q_5 hP hD hS => ?_)
  obtain ⟨rfl, -⟩ := q_5
  have hP : va_P D vwCl [(q, .inr (2, [.ref a, .ref b, .int pr])), (b, .inl (aI, 12, (.inl (fun kk => oI (pt kk)))))] H := hP
  have hD : va_D A [(q, .inr (2, [.ref a, .ref b, .int pr])), (b, .inl (aI, 12, (.inl (fun kk => oI (pt kk)))))] := hD
  exact j_iret (w1 := fun u => w_X2_freeRights_o aI aJ aZ q a b pt n pr u) (post := p_X2_freeRights pt n pr) C () hP hD hS ⟨rfl, trivial⟩ dX2_freeRights_8
abbrev w_X0_union_o (aI aJ aZ : ClassId) (q : Nat) (Ne : Nat → Nat → Bool) (f : Nat → Bool) (uu0 : Unit) : va_W := [(q, .inl (aI, 12, (.inl (fun kk => nI (mk (Ne kk))))))]
abbrev p_X0_union (Ne : Nat → Nat → Bool) (f : Nat → Bool) (rr0 : Int32) (uu0 : Unit) : Prop := rr0 = nI (mk (fun z => ex 12 (fun w => f w && Ne w z))) ∧ (True)
set_option maxHeartbeats 4000000 in
set_option maxRecDepth 100000 in
theorem c_X0_union (l : Launch) (D : va_G) (aI aJ aZ : ClassId) (q : Nat) (Ne : Nat → Nat → Bool) (f : Nat → Bool)  (sz : Nat) : Met l yX0_union wsX0_union ({ frames := 1, cells := 0, slots := 0, locals := 21 }) (va_Pc [.ref q, .int (nI (mk f))] (jI D (jT aI aJ aZ) [(q, .inl (aI, 12, (.inl (fun kk => nI (mk (Ne kk))))))] sz)) (va_Qi (S := Unit) (p_X0_union Ne f) (fun u t => jO D (jT aI aJ aZ) (va_A [(q, .inl (aI, 12, (.inl (fun kk => nI (mk (Ne kk))))))] sz) (w_X0_union_o aI aJ aZ q Ne f u) t) (va_A [(q, .inl (aI, 12, (.inl (fun kk => nI (mk (Ne kk))))))] sz)) 0 0 (va_A [(q, .inl (aI, 12, (.inl (fun kk => nI (mk (Ne kk))))))] sz) := by
  refine j_of (Qc := fun A => va_Qi (S := Unit) (p_X0_union Ne f) (fun u t => jO D (jT aI aJ aZ) A (w_X0_union_o aI aJ aZ q Ne f u) t) A) (own := RX0) (nm := "union") (by decide +kernel) rfl rfl rfl (Nat.le_of_ble_eq_true rfl) ?_
  intro p e s m below meth c A ls H locs C hP hD hS hl
  obtain ⟨hx, hb, hml, hown, hts, hK, hA, hlocks, hr, hn, hN⟩ := id C
  have key : ∀ N : Nat, (∀ (i : Nat) (H : Heap) (locs : List Loc) (ls : Array Slot), (13 - i) < N → (i ≤ 12) → va_P D vwCl [(q, .inl (aI, 12, (.inl (fun kk => nI (mk (Ne kk))))))] H → va_D A [(q, .inl (aI, 12, (.inl (fun kk => nI (mk (Ne kk))))))] → va_S A s.heap H locs → lv_has ls 4 [(0, .ref q), (1, .int (nI (mk f))), (2, .int (nI (mk (fun z => ex i (fun w => f w && Ne w z))))), (3, .int (nI i))] → W p l e ({ frames := 1, cells := 0, slots := 0, locals := 21 }) s m ([.ref q, .int (nI (mk f))] : List Value).toArray below meth c H locs 0 0 (MQ below (va_Qi (S := Unit) (p_X0_union Ne f) (fun u t => jO D (jT aI aJ aZ) A (w_X0_union_o aI aJ aZ q Ne f u) t) A) ([.ref q, .int (nI (mk f))] : List Value).toArray s 0 0 A) (F0 m 4 ls [])) := by
    intro N
    induction N with
    | zero => exact fun _ _ _ _ h => absurd h (Nat.not_lt_zero _)
    | succ N ih =>
      have ih4 := ih
      intro i H locs ls hmeas hi hP hD hS hl
      refine lv_iload_n hx hb dX0_union_4 rfl (lv_at hl 3 rfl) ?_
      refine lv_bipush (v := nI 12) hx hb dX0_union_5 (by decide) ?_
      refine lv_icmp_ge (tgt := 30) hx hb dX0_union_7 (by decide) (fun c_7 => ?_) (fun c_7 => ?_)
      · rw [cv_le (by omega) (by omega)] at c_7
        refine lv_iload_n hx hb dX0_union_30 rfl (lv_at hl 2 rfl) ?_
        have eV : nI (mk (fun z => ex i (fun w => f w && Ne w z))) = nI (mk (fun z => ex 12 (fun w => f w && Ne w z))) := by rw [show i = 12 by omega]
        exact j_iret (w1 := fun u => w_X0_union_o aI aJ aZ q Ne f u) (post := p_X0_union Ne f) C () hP hD hS ⟨eV, trivial⟩ dX0_union_31
      · rw [cv_le (by omega) (by omega)] at c_7
        refine lv_iload_n hx hb dX0_union_10 rfl (lv_at hl 1 rfl) ?_
        refine lv_iload_n hx hb dX0_union_11 rfl (lv_at hl 3 rfl) ?_
        refine j_calli (va_runSN (As := [.int (nI (mk f)), .int (nI i)]) (rest := []) C.fix (c_X6_holds l D aI aJ aZ (mk f) i (show (mk f) < 2 ^ 31 from by exact Nat.lt_trans (mk_lt _) (by decide)) (show i < 31 from by first | omega | assumption | rfl | (simp_all; done)) H.size) ⟨(va_cnB 2 hts gX0_union_X6_holds_n68 rfl rfl rfl (hN (RX0, 68, yX6_holds) (by decide +kernel)) (hts (.initialized RX6) (List.mem_of_getElem? (i := 2) rfl)) (by decide +kernel) ⟨Nat.le_of_ble_eq_true rfl, Nat.le_of_ble_eq_true rfl⟩), (hts (.static yX6_holds) (List.mem_of_getElem? (i := 1) rfl)), trivial⟩ (jPreS hN hK hP hD [] rfl rfl (by decide)) rfl rfl hl.1 rfl (lv_room (Nat.le_of_ble_eq_true rfl)) dX0_union_12 ⟨Nat.zero_le _, Nat.zero_le _⟩) hA hP hD hS [] [0] (wr := [(q, .inl (aI, 12, (.inl (fun kk => nI (mk (Ne kk))))))]) rfl rfl (by decide) (by decide) (fun r_12 u_12 H locs q_12 hP hD hS => ?_)
        obtain ⟨rfl, -⟩ := q_12
        have hP : va_P D vwCl [(q, .inl (aI, 12, (.inl (fun kk => nI (mk (Ne kk))))))] H := hP
        have hD : va_D A [(q, .inl (aI, 12, (.inl (fun kk => nI (mk (Ne kk))))))] := hD
        refine j_topi (y := (bI (f i))) (by rw [mk_tb' _ (by omega)]) ?_
        refine lv_if_eq (tgt := 24) hx hb dX0_union_15 (by decide) (fun c_15 => ?_) (fun c_15 => ?_)
        · rw [cv_b0] at c_15
          refine lv_iinc (v := nI (i + 1)) (lv' := [(3, .int (nI (i + 1))), (0, .ref q), (1, .int (nI (mk f))), (2, .int (nI (mk (fun z => ex i (fun w => f w && Ne w z)))))]) hx hb dX0_union_24 hl (k := 3) rfl (inc_nI i 1) (by decide) rfl (fun ls hl => ?_)
          refine lv_goto (tgt := 4) hx hb dX0_union_27 (by decide) ?_
          have hl := lv_sub (l' := [(0, .ref q), (1, .int (nI (mk f))), (2, .int (nI (mk (fun z => ex i (fun w => f w && Ne w z))))), (3, .int (nI (i + 1)))]) hl [1, 2, 3, 0] rfl
          have hl := lv_re hl 2 rfl (show (.int (nI (mk (fun z => ex i (fun w => f w && Ne w z)))) : Value) = .int (nI (mk (fun z => ex (i + 1) (fun w => f w && Ne w z)))) from congrArg _ (by exact congrArg nI (mk_congr (fun z hz => by simp [ex_succ, c_15]))))
          have hl : lv_has ls 4 [(0, .ref q), (1, .int (nI (mk f))), (2, .int (nI (mk (fun z => ex (i + 1) (fun w => f w && Ne w z))))), (3, .int (nI (i + 1)))] := hl
          exact ih4 (i + 1) _ _ _ (by omega) (show (i + 1) ≤ 12 from by first | omega | assumption | rfl | (simp_all; done)) hP hD hS hl
        · rw [cv_b0] at c_15
          rw [cv_nb] at c_15
          refine lv_iload_n hx hb dX0_union_18 rfl (lv_at hl 2 rfl) ?_
          refine lv_aload_n hx hb dX0_union_19 rfl (lv_at hl 0 rfl) ?_
          refine lv_iload_n hx hb dX0_union_20 rfl (lv_at hl 3 rfl) ?_
          refine j_iald (v := nI (mk (Ne i))) hx hb hK hP 0 0 rfl rfl (by omega) (by omega) (rfl) dX0_union_21 ?_
          refine lv_ior hx hb dX0_union_22 ?_
          refine j_topi (y := (nI (mk (fun z => ex i (fun w => f w && Ne w z) || Ne i z)))) (by rw [fa_or, mk_or]) ?_
          refine lv_istore_n (lv' := [(2, .int (nI (mk (fun z => ex i (fun w => f w && Ne w z) || Ne i z)))), (0, .ref q), (1, .int (nI (mk f))), (3, .int (nI i))]) hx hb dX0_union_23 rfl hl (by decide) rfl (fun ls hl => ?_)
          refine lv_iinc (v := nI (i + 1)) (lv' := [(3, .int (nI (i + 1))), (2, .int (nI (mk (fun z => ex i (fun w => f w && Ne w z) || Ne i z)))), (0, .ref q), (1, .int (nI (mk f)))]) hx hb dX0_union_24 hl (k := 3) rfl (inc_nI i 1) (by decide) rfl (fun ls hl => ?_)
          refine lv_goto (tgt := 4) hx hb dX0_union_27 (by decide) ?_
          have hl := lv_sub (l' := [(0, .ref q), (1, .int (nI (mk f))), (2, .int (nI (mk (fun z => ex i (fun w => f w && Ne w z) || Ne i z)))), (3, .int (nI (i + 1)))]) hl [2, 3, 1, 0] rfl
          have hl := lv_re hl 2 rfl (show (.int (nI (mk (fun z => ex i (fun w => f w && Ne w z) || Ne i z))) : Value) = .int (nI (mk (fun z => ex (i + 1) (fun w => f w && Ne w z)))) from congrArg _ (by exact congrArg nI (mk_congr (fun z hz => by simp [ex_succ, c_15]))))
          have hl : lv_has ls 4 [(0, .ref q), (1, .int (nI (mk f))), (2, .int (nI (mk (fun z => ex (i + 1) (fun w => f w && Ne w z))))), (3, .int (nI (i + 1)))] := hl
          exact ih4 (i + 1) _ _ _ (by omega) (show (i + 1) ≤ 12 from by first | omega | assumption | rfl | (simp_all; done)) hP hD hS hl
  have hl : lv_has ls 4 [(0, .ref q), (1, .int (nI (mk f)))] := hl
  refine lv_iconst (v := nI 0) hx hb dX0_union_0 (by decide) ?_
  refine lv_istore_n (lv' := [(2, .int (nI 0)), (0, .ref q), (1, .int (nI (mk f)))]) hx hb dX0_union_1 rfl hl (by decide) rfl (fun ls hl => ?_)
  refine lv_iconst (v := nI 0) hx hb dX0_union_2 (by decide) ?_
  refine lv_istore_n (lv' := [(3, .int (nI 0)), (2, .int (nI 0)), (0, .ref q), (1, .int (nI (mk f)))]) hx hb dX0_union_3 rfl hl (by decide) rfl (fun ls hl => ?_)
  have hl := lv_sub (l' := [(0, .ref q), (1, .int (nI (mk f))), (2, .int (nI 0)), (3, .int (nI 0))]) hl [2, 3, 1, 0] rfl
  have hl := lv_re hl 2 rfl (show (.int (nI 0) : Value) = .int (nI (mk (fun z => ex 0 (fun w => f w && Ne w z)))) from congrArg _ (by exact (congrArg nI (mk_0 (fun _ _ => rfl))).symm))
  have hl : lv_has ls 4 [(0, .ref q), (1, .int (nI (mk f))), (2, .int (nI (mk (fun z => ex 0 (fun w => f w && Ne w z))))), (3, .int (nI 0))] := hl
  exact (key _) 0 _ _ _ (Nat.lt_succ_self _) (show 0 ≤ 12 from by first | omega | assumption | rfl | (simp_all; done)) hP hD hS hl
abbrev w_X0_partIn_o (aI aJ aZ : ClassId)  (f : Nat → Bool) (g : Nat → Bool) (i : Nat) (uu0 : Unit) : va_W := []
abbrev p_X0_partIn (f : Nat → Bool) (g : Nat → Bool) (i : Nat) (rr0 : Int32) (uu0 : Unit) : Prop := rr0 = nI (if f i then 0 else if g i then 2 else 1) ∧ (True)
set_option maxHeartbeats 4000000 in
set_option maxRecDepth 100000 in
theorem c_X0_partIn (l : Launch) (D : va_G) (aI aJ aZ : ClassId)  (f : Nat → Bool) (g : Nat → Bool) (i : Nat) (hi0 : i < 12) (sz : Nat) : Met l yX0_partIn wsX0_partIn ({ frames := 1, cells := 0, slots := 0, locals := 21 }) (va_Pc [.int (nI (mk f)), .int (nI (mk g)), .int (nI i)] (jI D (jT aI aJ aZ) [] sz)) (va_Qi (S := Unit) (p_X0_partIn f g i) (fun u t => jO D (jT aI aJ aZ) (va_A [] sz) (w_X0_partIn_o aI aJ aZ f g i u) t) (va_A [] sz)) 0 0 (va_A [] sz) := by
  refine j_of (Qc := fun A => va_Qi (S := Unit) (p_X0_partIn f g i) (fun u t => jO D (jT aI aJ aZ) A (w_X0_partIn_o aI aJ aZ f g i u) t) A) (own := RX0) (nm := "partIn") (by decide +kernel) rfl rfl rfl (Nat.le_of_ble_eq_true rfl) ?_
  intro p e s m below meth c A ls H locs C hP hD hS hl
  obtain ⟨hx, hb, hml, hown, hts, hK, hA, hlocks, hr, hn, hN⟩ := id C
  have hl : lv_has ls 3 [(0, .int (nI (mk f))), (1, .int (nI (mk g))), (2, .int (nI i))] := hl
  refine lv_iload_n hx hb dX0_partIn_0 rfl (lv_at hl 0 rfl) ?_
  refine lv_iload_n hx hb dX0_partIn_1 rfl (lv_at hl 2 rfl) ?_
  refine j_calli (va_runSN (As := [.int (nI (mk f)), .int (nI i)]) (rest := []) C.fix (c_X6_holds l D aI aJ aZ (mk f) i (show (mk f) < 2 ^ 31 from by exact Nat.lt_trans (mk_lt _) (by decide)) (show i < 31 from by first | omega | assumption | rfl | (simp_all; done)) H.size) ⟨(va_cnB 2 hts gX0_partIn_X6_holds_n68 rfl rfl rfl (hN (RX0, 68, yX6_holds) (by decide +kernel)) (hts (.initialized RX6) (List.mem_of_getElem? (i := 2) rfl)) (by decide +kernel) ⟨Nat.le_of_ble_eq_true rfl, Nat.le_of_ble_eq_true rfl⟩), (hts (.static yX6_holds) (List.mem_of_getElem? (i := 1) rfl)), trivial⟩ (jPreS hN hK hP hD [] rfl rfl (by decide)) rfl rfl hl.1 rfl (lv_room (Nat.le_of_ble_eq_true rfl)) dX0_partIn_2 ⟨Nat.zero_le _, Nat.zero_le _⟩) hA hP hD hS [] [] (wr := []) rfl rfl (by decide) (by decide) (fun r_2 u_2 H locs q_2 hP hD hS => ?_)
  obtain ⟨rfl, -⟩ := q_2
  have hP : va_P D vwCl [] H := hP
  have hD : va_D A [] := hD
  refine j_topi (y := (bI (f i))) (by rw [mk_tb' _ hi0]) ?_
  refine lv_if_eq (tgt := 10) hx hb dX0_partIn_5 (by decide) (fun c_5 => ?_) (fun c_5 => ?_)
  · rw [cv_b0] at c_5
    refine lv_iload_n hx hb dX0_partIn_10 rfl (lv_at hl 1 rfl) ?_
    refine lv_iload_n hx hb dX0_partIn_11 rfl (lv_at hl 2 rfl) ?_
    refine j_calli (va_runSN (As := [.int (nI (mk g)), .int (nI i)]) (rest := []) C.fix (c_X6_holds l D aI aJ aZ (mk g) i (show (mk g) < 2 ^ 31 from by exact Nat.lt_trans (mk_lt _) (by decide)) (show i < 31 from by first | omega | assumption | rfl | (simp_all; done)) H.size) ⟨(va_cnB 2 hts gX0_partIn_X6_holds_n68 rfl rfl rfl (hN (RX0, 68, yX6_holds) (by decide +kernel)) (hts (.initialized RX6) (List.mem_of_getElem? (i := 2) rfl)) (by decide +kernel) ⟨Nat.le_of_ble_eq_true rfl, Nat.le_of_ble_eq_true rfl⟩), (hts (.static yX6_holds) (List.mem_of_getElem? (i := 1) rfl)), trivial⟩ (jPreS hN hK hP hD [] rfl rfl (by decide)) rfl rfl hl.1 rfl (lv_room (Nat.le_of_ble_eq_true rfl)) dX0_partIn_12 ⟨Nat.zero_le _, Nat.zero_le _⟩) hA hP hD hS [] [] (wr := []) rfl rfl (by decide) (by decide) (fun r_12 u_12 H locs q_12 hP hD hS => ?_)
    obtain ⟨rfl, -⟩ := q_12
    have hP : va_P D vwCl [] H := hP
    have hD : va_D A [] := hD
    refine j_topi (y := (bI (g i))) (by rw [mk_tb' _ hi0]) ?_
    refine lv_if_eq (tgt := 22) hx hb dX0_partIn_15 (by decide) (fun c_15 => ?_) (fun c_15 => ?_)
    · rw [cv_b0] at c_15
      refine lv_iconst (v := nI 1) hx hb dX0_partIn_22 (by decide) ?_
      have eV : nI 1 = nI (if f i then 0 else if g i then 2 else 1) := by simp_all
      exact j_iret (w1 := fun u => w_X0_partIn_o aI aJ aZ f g i u) (post := p_X0_partIn f g i) C () hP hD hS ⟨eV, trivial⟩ dX0_partIn_23
    · rw [cv_b0] at c_15
      rw [cv_nb] at c_15
      refine lv_iconst (v := nI 2) hx hb dX0_partIn_18 (by decide) ?_
      refine lv_goto (tgt := 23) hx hb dX0_partIn_19 (by decide) ?_
      have eV : nI 2 = nI (if f i then 0 else if g i then 2 else 1) := by simp_all
      exact j_iret (w1 := fun u => w_X0_partIn_o aI aJ aZ f g i u) (post := p_X0_partIn f g i) C () hP hD hS ⟨eV, trivial⟩ dX0_partIn_23
  · rw [cv_b0] at c_5
    rw [cv_nb] at c_5
    refine lv_iconst (v := nI 0) hx hb dX0_partIn_8 (by decide) ?_
    have eV : nI 0 = nI (if f i then 0 else if g i then 2 else 1) := by simp_all
    exact j_iret (w1 := fun u => w_X0_partIn_o aI aJ aZ f g i u) (post := p_X0_partIn f g i) C () hP hD hS ⟨eV, trivial⟩ dX0_partIn_9
abbrev w_J7_fill_53178_o (aI aJ aZ : ClassId) (q : Nat) (f : Nat → Int32) (v : Int32) (n : Nat) (uu0 : Unit) : va_W := [(q, .inl (aI, n, (.inl (fun _ => v))))]
abbrev p_J7_fill_53178 (f : Nat → Int32) (v : Int32) (n : Nat) (uu0 : Unit) : Prop := True
set_option maxHeartbeats 4000000 in
set_option maxRecDepth 100000 in
theorem c_J7_fill_53178 (l : Launch) (D : va_G) (aI aJ aZ : ClassId) (q : Nat) (f : Nat → Int32) (v : Int32) (n : Nat) (hn : n < 2 ^ 31) (sz : Nat) : Met l yJ7_fill_53178 wsJ7_fill_53178 ({ frames := 0, cells := 0, slots := 0, locals := 0 }) (va_Pc [.ref q, .int v] (jI D (jT aI aJ aZ) [(q, .inl (aI, n, (.inl (f))))] sz)) (va_Qv (S := Unit) (p_J7_fill_53178 f v n) (fun u t => jO D (jT aI aJ aZ) (va_A [(q, .inl (aI, n, (.inl (f))))] sz) (w_J7_fill_53178_o aI aJ aZ q f v n u) t) (va_A [(q, .inl (aI, n, (.inl (f))))] sz)) 0 0 (va_A [(q, .inl (aI, n, (.inl (f))))] sz) := by
  refine j_of (Qc := fun A => va_Qv (S := Unit) (p_J7_fill_53178 f v n) (fun u t => jO D (jT aI aJ aZ) A (w_J7_fill_53178_o aI aJ aZ q f v n u) t) A) (own := RJ7) (nm := "fill") (by decide +kernel) rfl rfl rfl (Nat.le_of_ble_eq_true rfl) ?_
  intro p e s m below meth c A ls H locs C hP hD hS hl
  obtain ⟨hx, hb, hml, hown, hts, hK, hA, hlocks, hr, hn, hN⟩ := id C
  have key : ∀ N : Nat, (∀ (i : Nat) (H : Heap) (locs : List Loc) (ls : Array Slot), (n + 1 - i) < N → (i ≤ n) → va_P D vwCl [(q, .inl (aI, n, (.inl (fun z => if z < i then v else f z))))] H → va_D A [(q, .inl (aI, n, (.inl (fun z => if z < i then v else f z))))] → va_S A s.heap H locs → lv_has ls 4 [(0, .ref q), (1, .int v), (2, .int (nI i)), (3, .int (nI n))] → W p l e ({ frames := 0, cells := 0, slots := 0, locals := 0 }) s m ([.ref q, .int v] : List Value).toArray below meth c H locs 0 0 (MQ below (va_Qv (S := Unit) (p_J7_fill_53178 f v n) (fun u t => jO D (jT aI aJ aZ) A (w_J7_fill_53178_o aI aJ aZ q f v n u) t) A) ([.ref q, .int v] : List Value).toArray s 0 0 A) (F0 m 5 ls [])) := by
    intro N
    induction N with
    | zero => exact fun _ _ _ _ h => absurd h (Nat.not_lt_zero _)
    | succ N ih =>
      have ih5 := ih
      intro i H locs ls hmeas hi hP hD hS hl
      refine lv_iload_n hx hb dJ7_fill_53178_5 rfl (lv_at hl 2 rfl) ?_
      refine lv_iload_n hx hb dJ7_fill_53178_6 rfl (lv_at hl 3 rfl) ?_
      refine lv_icmp_ge (tgt := 20) hx hb dJ7_fill_53178_7 (by decide) (fun c_7 => ?_) (fun c_7 => ?_)
      · rw [cv_le (by omega) (by omega)] at c_7
        have hP := va_reA (g := fun _ => v) hP 0 rfl (fun kk hkk => by rw [if_pos (by omega)])
        have hD := hD.set (p := 0) (e := .inl (aI, n, (.inl (fun _ => v)))) rfl
        have hP : va_P D vwCl [(q, .inl (aI, n, (.inl (fun _ => v))))] H := hP
        have hD : va_D A [(q, .inl (aI, n, (.inl (fun _ => v))))] := hD
        exact j_vret (w1 := fun u => w_J7_fill_53178_o aI aJ aZ q f v n u) (post := p_J7_fill_53178 f v n) C () hP hD hS trivial dJ7_fill_53178_20
      · rw [cv_le (by omega) (by omega)] at c_7
        refine lv_aload_n hx hb dJ7_fill_53178_10 rfl (lv_at hl 0 rfl) ?_
        refine lv_iload_n hx hb dJ7_fill_53178_11 rfl (lv_at hl 2 rfl) ?_
        refine lv_iload_n hx hb dJ7_fill_53178_12 rfl (lv_at hl 1 rfl) ?_
        refine j_iast (g := upd (fun z => if z < i then v else f z) i v) hx hb hK hP hD hS 0 0 rfl rfl (by omega) (by omega) (rfl) dJ7_fill_53178_13 (fun H locs hP hD hS => ?_)
        have hP : va_P D vwCl [(q, .inl (aI, n, (.inl (upd (fun z => if z < i then v else f z) i v))))] H := hP
        have hD : va_D A [(q, .inl (aI, n, (.inl (upd (fun z => if z < i then v else f z) i v))))] := hD
        refine lv_iinc (v := nI (i + 1)) (lv' := [(2, .int (nI (i + 1))), (0, .ref q), (1, .int v), (3, .int (nI n))]) hx hb dJ7_fill_53178_14 hl (k := 2) rfl (inc_nI i 1) (by decide) rfl (fun ls hl => ?_)
        refine lv_goto (tgt := 5) hx hb dJ7_fill_53178_17 (by decide) ?_
        have hP := va_reA (g := fun z => if z < (i + 1) then v else f z) hP 0 rfl (fun kk hkk => by (try simp only [upd]); (iterate 3 (all_goals (try split))); all_goals first | rfl | omega | (exfalso; omega))
        have hD := hD.set (p := 0) (e := .inl (aI, n, (.inl (fun z => if z < (i + 1) then v else f z)))) rfl
        have hP : va_P D vwCl [(q, .inl (aI, n, (.inl (fun z => if z < (i + 1) then v else f z))))] H := hP
        have hD : va_D A [(q, .inl (aI, n, (.inl (fun z => if z < (i + 1) then v else f z))))] := hD
        have hl := lv_sub (l' := [(0, .ref q), (1, .int v), (2, .int (nI (i + 1))), (3, .int (nI n))]) hl [1, 2, 0, 3] rfl
        exact ih5 (i + 1) _ _ _ (by omega) (show (i + 1) ≤ n from by first | omega | assumption | rfl | (simp_all; done)) hP hD hS hl
  have hl : lv_has ls 4 [(0, .ref q), (1, .int v)] := hl
  refine lv_iconst (v := nI 0) hx hb dJ7_fill_53178_0 (by decide) ?_
  refine lv_istore_n (lv' := [(2, .int (nI 0)), (0, .ref q), (1, .int v)]) hx hb dJ7_fill_53178_1 rfl hl (by decide) rfl (fun ls hl => ?_)
  refine lv_aload_n hx hb dJ7_fill_53178_2 rfl (lv_at hl 1 rfl) ?_
  refine va_alen (v := nI n) hx hb hK hP 0 0 rfl rfl rfl dJ7_fill_53178_3 ?_
  refine lv_istore_n (lv' := [(3, .int (nI n)), (2, .int (nI 0)), (0, .ref q), (1, .int v)]) hx hb dJ7_fill_53178_4 rfl hl (by decide) rfl (fun ls hl => ?_)
  have hP := va_reA (g := fun z => if z < 0 then v else f z) hP 0 rfl (fun kk hkk => by (try simp only [upd]); (iterate 3 (all_goals (try split))); all_goals first | rfl | omega | (exfalso; omega))
  have hD := hD.set (p := 0) (e := .inl (aI, n, (.inl (fun z => if z < 0 then v else f z)))) rfl
  have hP : va_P D vwCl [(q, .inl (aI, n, (.inl (fun z => if z < 0 then v else f z))))] H := hP
  have hD : va_D A [(q, .inl (aI, n, (.inl (fun z => if z < 0 then v else f z))))] := hD
  have hl := lv_sub (l' := [(0, .ref q), (1, .int v), (2, .int (nI 0)), (3, .int (nI n))]) hl [2, 3, 1, 0] rfl
  exact (key _) 0 _ _ _ (Nat.lt_succ_self _) (show 0 ≤ n from by first | omega | assumption | rfl | (simp_all; done)) hP hD hS hl
abbrev w_X2_join_o (aI aJ aZ : ClassId) (q a b : Nat) (pt : Nat → Option Nat) (g : Nat → Option Nat) (x : Nat) (y : Nat) (pr : Int32) (uu0 : Unit) : va_W := [(q, .inr (2, [.ref a, .ref b, .int pr])), (a, .inl (aI, 12, (.inl (fun kk => oI ((va_up pt x (some y)) kk))))), (b, .inl (aI, 12, (.inl (fun kk => oI ((va_up g y (some x)) kk)))))]
abbrev p_X2_join (pt : Nat → Option Nat) (g : Nat → Option Nat) (x : Nat) (y : Nat) (pr : Int32) (uu0 : Unit) : Prop := True
set_option maxHeartbeats 4000000 in
set_option maxRecDepth 100000 in
theorem c_X2_join (l : Launch) (D : va_G) (aI aJ aZ : ClassId) (q a b : Nat) (pt : Nat → Option Nat) (g : Nat → Option Nat) (x : Nat) (y : Nat) (pr : Int32) (hx1 : x < 12) (hy1 : y < 12) (sz : Nat) : Met l yX2_join wsX2_join ({ frames := 0, cells := 0, slots := 0, locals := 0 }) (va_Pc [.ref q, .int (nI x), .int (nI y)] (jI D (jT aI aJ aZ) [(q, .inr (2, [.ref a, .ref b, .int pr])), (a, .inl (aI, 12, (.inl (fun kk => oI (pt kk))))), (b, .inl (aI, 12, (.inl (fun kk => oI (g kk)))))] sz)) (va_Qv (S := Unit) (p_X2_join pt g x y pr) (fun u t => jO D (jT aI aJ aZ) (va_A [(q, .inr (2, [.ref a, .ref b, .int pr])), (a, .inl (aI, 12, (.inl (fun kk => oI (pt kk))))), (b, .inl (aI, 12, (.inl (fun kk => oI (g kk)))))] sz) (w_X2_join_o aI aJ aZ q a b pt g x y pr u) t) (va_A [(q, .inr (2, [.ref a, .ref b, .int pr])), (a, .inl (aI, 12, (.inl (fun kk => oI (pt kk))))), (b, .inl (aI, 12, (.inl (fun kk => oI (g kk)))))] sz)) 0 0 (va_A [(q, .inr (2, [.ref a, .ref b, .int pr])), (a, .inl (aI, 12, (.inl (fun kk => oI (pt kk))))), (b, .inl (aI, 12, (.inl (fun kk => oI (g kk)))))] sz) := by
  refine j_of (Qc := fun A => va_Qv (S := Unit) (p_X2_join pt g x y pr) (fun u t => jO D (jT aI aJ aZ) A (w_X2_join_o aI aJ aZ q a b pt g x y pr u) t) A) (own := RX2) (nm := "join") (by decide +kernel) rfl rfl rfl (Nat.le_of_ble_eq_true rfl) ?_
  intro p e s m below meth c A ls H locs C hP hD hS hl
  obtain ⟨hx, hb, hml, hown, hts, hK, hA, hlocks, hr, hn, hN⟩ := id C
  have L_9 := hts (.fieldLink RX2 9 "Phasehall$Matching" "ofLeft" "[I") (List.mem_of_getElem? (i := 1) rfl)
  have L_15 := hts (.fieldLink RX2 15 "Phasehall$Matching" "ofRight" "[I") (List.mem_of_getElem? (i := 2) rfl)
  have inX2 : ∀ w ∈ wsX20, w ∈ wsX2_join := fun _ h => List.mem_cons_of_mem _ (List.mem_append_right _ h)
  have hl : lv_has ls 3 [(0, .ref q), (1, .int (nI x)), (2, .int (nI y))] := hl
  refine lv_aload_n hx hb dX2_join_0 rfl (lv_at hl 0 rfl) ?_
  refine va_get (D := D) (ci := 2) (v := .ref a) (C := RX2) (T := TX2) (N := 3) hx hb hts inX2 hown hK hP 0 rfl rfl 0 (by decide) L_9 (fun _ h9 => h9) rfl dX2_join_1 ?_
  refine lv_iload_n hx hb dX2_join_4 rfl (lv_at hl 1 rfl) ?_
  refine lv_iload_n hx hb dX2_join_5 rfl (lv_at hl 2 rfl) ?_
  refine j_iast (g := fun kk => oI ((va_up pt x (some y)) kk)) hx hb hK hP hD hS 1 0 rfl rfl (by omega) (by omega) (upd_oI _ _ (some y)) dX2_join_6 (fun H locs hP hD hS => ?_)
  have hP : va_P D vwCl [(q, .inr (2, [.ref a, .ref b, .int pr])), (a, .inl (aI, 12, (.inl (fun kk => oI ((va_up pt x (some y)) kk))))), (b, .inl (aI, 12, (.inl (fun kk => oI (g kk)))))] H := hP
  have hD : va_D A [(q, .inr (2, [.ref a, .ref b, .int pr])), (a, .inl (aI, 12, (.inl (fun kk => oI ((va_up pt x (some y)) kk))))), (b, .inl (aI, 12, (.inl (fun kk => oI (g kk)))))] := hD
  refine lv_aload_n hx hb dX2_join_7 rfl (lv_at hl 0 rfl) ?_
  refine va_get (D := D) (ci := 2) (v := .ref b) (C := RX2) (T := TX2) (N := 3) hx hb hts inX2 hown hK hP 0 rfl rfl 1 (by decide) L_15 (fun _ h9 => h9) rfl dX2_join_8 ?_
  refine lv_iload_n hx hb dX2_join_11 rfl (lv_at hl 2 rfl) ?_
  refine lv_iload_n hx hb dX2_join_12 rfl (lv_at hl 1 rfl) ?_
  refine j_iast (g := fun kk => oI ((va_up g y (some x)) kk)) hx hb hK hP hD hS 2 0 rfl rfl (by omega) (by omega) (upd_oI _ _ (some x)) dX2_join_13 (fun H locs hP hD hS => ?_)
  have hP : va_P D vwCl [(q, .inr (2, [.ref a, .ref b, .int pr])), (a, .inl (aI, 12, (.inl (fun kk => oI ((va_up pt x (some y)) kk))))), (b, .inl (aI, 12, (.inl (fun kk => oI ((va_up g y (some x)) kk)))))] H := hP
  have hD : va_D A [(q, .inr (2, [.ref a, .ref b, .int pr])), (a, .inl (aI, 12, (.inl (fun kk => oI ((va_up pt x (some y)) kk))))), (b, .inl (aI, 12, (.inl (fun kk => oI ((va_up g y (some x)) kk)))))] := hD
  exact j_vret (w1 := fun u => w_X2_join_o aI aJ aZ q a b pt g x y pr u) (post := p_X2_join pt g x y pr) C () hP hD hS trivial dX2_join_14
abbrev w_X2_separate_o (aI aJ aZ : ClassId) (q a b : Nat) (pt : Nat → Option Nat) (g : Nat → Option Nat) (x : Nat) (y : Nat) (n : Nat) (uu0 : Unit) : va_W := [(q, .inr (2, [.ref a, .ref b, .int (nI (n - 1))])), (a, .inl (aI, 12, (.inl (fun kk => oI ((va_up pt x none) kk))))), (b, .inl (aI, 12, (.inl (fun kk => oI ((va_up g y none) kk)))))]
abbrev p_X2_separate (pt : Nat → Option Nat) (g : Nat → Option Nat) (x : Nat) (y : Nat) (n : Nat) (uu0 : Unit) : Prop := True
set_option maxHeartbeats 4000000 in
set_option maxRecDepth 100000 in
theorem c_X2_separate (l : Launch) (D : va_G) (aI aJ aZ : ClassId) (q a b : Nat) (pt : Nat → Option Nat) (g : Nat → Option Nat) (x : Nat) (y : Nat) (n : Nat) (hx1 : x < 12) (hy1 : y < 12) (hn1 : 0 < n) (sz : Nat) : Met l yX2_separate wsX2_separate ({ frames := 0, cells := 0, slots := 0, locals := 0 }) (va_Pc [.ref q, .int (nI x), .int (nI y)] (jI D (jT aI aJ aZ) [(q, .inr (2, [.ref a, .ref b, .int (nI n)])), (a, .inl (aI, 12, (.inl (fun kk => oI (pt kk))))), (b, .inl (aI, 12, (.inl (fun kk => oI (g kk)))))] sz)) (va_Qv (S := Unit) (p_X2_separate pt g x y n) (fun u t => jO D (jT aI aJ aZ) (va_A [(q, .inr (2, [.ref a, .ref b, .int (nI n)])), (a, .inl (aI, 12, (.inl (fun kk => oI (pt kk))))), (b, .inl (aI, 12, (.inl (fun kk => oI (g kk)))))] sz) (w_X2_separate_o aI aJ aZ q a b pt g x y n u) t) (va_A [(q, .inr (2, [.ref a, .ref b, .int (nI n)])), (a, .inl (aI, 12, (.inl (fun kk => oI (pt kk))))), (b, .inl (aI, 12, (.inl (fun kk => oI (g kk)))))] sz)) 0 0 (va_A [(q, .inr (2, [.ref a, .ref b, .int (nI n)])), (a, .inl (aI, 12, (.inl (fun kk => oI (pt kk))))), (b, .inl (aI, 12, (.inl (fun kk => oI (g kk)))))] sz) := by
  refine j_of (Qc := fun A => va_Qv (S := Unit) (p_X2_separate pt g x y n) (fun u t => jO D (jT aI aJ aZ) A (w_X2_separate_o aI aJ aZ q a b pt g x y n u) t) A) (own := RX2) (nm := "separate") (by decide +kernel) rfl rfl rfl (Nat.le_of_ble_eq_true rfl) ?_
  intro p e s m below meth c A ls H locs C hP hD hS hl
  obtain ⟨hx, hb, hml, hown, hts, hK, hA, hlocks, hr, hn, hN⟩ := id C
  have L_9 := hts (.fieldLink RX2 9 "Phasehall$Matching" "ofLeft" "[I") (List.mem_of_getElem? (i := 1) rfl)
  have L_15 := hts (.fieldLink RX2 15 "Phasehall$Matching" "ofRight" "[I") (List.mem_of_getElem? (i := 2) rfl)
  have L_24 := hts (.fieldLink RX2 24 "Phasehall$Matching" "pairs" "I") (List.mem_of_getElem? (i := 3) rfl)
  have inX2 : ∀ w ∈ wsX20, w ∈ wsX2_separate := fun _ h => List.mem_cons_of_mem _ (List.mem_append_right _ h)
  have hl : lv_has ls 3 [(0, .ref q), (1, .int (nI x)), (2, .int (nI y))] := hl
  refine lv_aload_n hx hb dX2_separate_0 rfl (lv_at hl 0 rfl) ?_
  refine va_get (D := D) (ci := 2) (v := .ref a) (C := RX2) (T := TX2) (N := 3) hx hb hts inX2 hown hK hP 0 rfl rfl 0 (by decide) L_9 (fun _ h9 => h9) rfl dX2_separate_1 ?_
  refine lv_iload_n hx hb dX2_separate_4 rfl (lv_at hl 1 rfl) ?_
  refine lv_iconst (v := oI none) hx hb dX2_separate_5 (by decide) ?_
  refine j_iast (g := fun kk => oI ((va_up pt x none) kk)) hx hb hK hP hD hS 1 0 rfl rfl (by omega) (by omega) (upd_oI _ _ none) dX2_separate_6 (fun H locs hP hD hS => ?_)
  have hP : va_P D vwCl [(q, .inr (2, [.ref a, .ref b, .int (nI n)])), (a, .inl (aI, 12, (.inl (fun kk => oI ((va_up pt x none) kk))))), (b, .inl (aI, 12, (.inl (fun kk => oI (g kk)))))] H := hP
  have hD : va_D A [(q, .inr (2, [.ref a, .ref b, .int (nI n)])), (a, .inl (aI, 12, (.inl (fun kk => oI ((va_up pt x none) kk))))), (b, .inl (aI, 12, (.inl (fun kk => oI (g kk)))))] := hD
  refine lv_aload_n hx hb dX2_separate_7 rfl (lv_at hl 0 rfl) ?_
  refine va_get (D := D) (ci := 2) (v := .ref b) (C := RX2) (T := TX2) (N := 3) hx hb hts inX2 hown hK hP 0 rfl rfl 1 (by decide) L_15 (fun _ h9 => h9) rfl dX2_separate_8 ?_
  refine lv_iload_n hx hb dX2_separate_11 rfl (lv_at hl 2 rfl) ?_
  refine lv_iconst (v := oI none) hx hb dX2_separate_12 (by decide) ?_
  refine j_iast (g := fun kk => oI ((va_up g y none) kk)) hx hb hK hP hD hS 2 0 rfl rfl (by omega) (by omega) (upd_oI _ _ none) dX2_separate_13 (fun H locs hP hD hS => ?_)
  have hP : va_P D vwCl [(q, .inr (2, [.ref a, .ref b, .int (nI n)])), (a, .inl (aI, 12, (.inl (fun kk => oI ((va_up pt x none) kk))))), (b, .inl (aI, 12, (.inl (fun kk => oI ((va_up g y none) kk)))))] H := hP
  have hD : va_D A [(q, .inr (2, [.ref a, .ref b, .int (nI n)])), (a, .inl (aI, 12, (.inl (fun kk => oI ((va_up pt x none) kk))))), (b, .inl (aI, 12, (.inl (fun kk => oI ((va_up g y none) kk)))))] := hD
  refine lv_aload_n hx hb dX2_separate_14 rfl (lv_at hl 0 rfl) ?_
  refine lv_dup hx hb dX2_separate_15 rfl ?_
  refine va_get (D := D) (ci := 2) (v := .int (nI n)) (C := RX2) (T := TX2) (N := 3) hx hb hts inX2 hown hK hP 0 rfl rfl 2 (by decide) L_24 (fun _ h9 => h9) rfl dX2_separate_16 ?_
  refine lv_iconst (v := nI 1) hx hb dX2_separate_19 (by decide) ?_
  refine lv_isub hx hb dX2_separate_20 ?_
  refine j_topi (y := (nI (n - 1))) (pk_sub (by omega)) ?_
  refine va_put (D := D) (ci := 2) (v := .int (nI (n - 1))) (ty := .int) (C := RX2) (T := TX2) (N := 3) hx hb hts inX2 tyX2 tyX2_ok nmX2 hown hK hP hD hS 0 rfl rfl 2 (by decide) L_24 (fun _ h9 => h9) rfl (by decide +kernel) rfl rfl (Nat.le_of_ble_eq_true rfl) dX2_separate_21 (fun H locs hP hD hS => ?_)
  have hP : va_P D vwCl [(q, .inr (2, [.ref a, .ref b, .int (nI (n - 1))])), (a, .inl (aI, 12, (.inl (fun kk => oI ((va_up pt x none) kk))))), (b, .inl (aI, 12, (.inl (fun kk => oI ((va_up g y none) kk)))))] H := hP
  have hD : va_D A [(q, .inr (2, [.ref a, .ref b, .int (nI (n - 1))])), (a, .inl (aI, 12, (.inl (fun kk => oI ((va_up pt x none) kk))))), (b, .inl (aI, 12, (.inl (fun kk => oI ((va_up g y none) kk)))))] := hD
  exact j_vret (w1 := fun u => w_X2_separate_o aI aJ aZ q a b pt g x y n u) (post := p_X2_separate pt g x y n) C () hP hD hS trivial dX2_separate_24
abbrev w_X2_clear_o (aI aJ aZ : ClassId) (q a b : Nat) (pt : Nat → Int32) (g : Nat → Int32) (pr : Int32) (uu0 : Unit) : va_W := [(q, .inr (2, [.ref a, .ref b, .int (nI 0)])), (a, .inl (aI, 12, (.inl (fun kk => oI ((fun _ => none) kk))))), (b, .inl (aI, 12, (.inl (fun kk => oI ((fun _ => none) kk)))))]
abbrev p_X2_clear (pt : Nat → Int32) (g : Nat → Int32) (pr : Int32) (uu0 : Unit) : Prop := True
set_option maxHeartbeats 4000000 in
set_option maxRecDepth 100000 in
theorem c_X2_clear (l : Launch) (D : va_G) (aI aJ aZ : ClassId) (q a b : Nat) (pt : Nat → Int32) (g : Nat → Int32) (pr : Int32)  (sz : Nat) : Met l yX2_clear wsX2_clear ({ frames := 1, cells := 0, slots := 0, locals := 23 }) (va_Pc [.ref q] (jI D (jT aI aJ aZ) [(q, .inr (2, [.ref a, .ref b, .int pr])), (a, .inl (aI, 12, (.inl (pt)))), (b, .inl (aI, 12, (.inl (g))))] sz)) (va_Qv (S := Unit) (p_X2_clear pt g pr) (fun u t => jO D (jT aI aJ aZ) (va_A [(q, .inr (2, [.ref a, .ref b, .int pr])), (a, .inl (aI, 12, (.inl (pt)))), (b, .inl (aI, 12, (.inl (g))))] sz) (w_X2_clear_o aI aJ aZ q a b pt g pr u) t) (va_A [(q, .inr (2, [.ref a, .ref b, .int pr])), (a, .inl (aI, 12, (.inl (pt)))), (b, .inl (aI, 12, (.inl (g))))] sz)) 0 0 (va_A [(q, .inr (2, [.ref a, .ref b, .int pr])), (a, .inl (aI, 12, (.inl (pt)))), (b, .inl (aI, 12, (.inl (g))))] sz) := by
  refine j_of (Qc := fun A => va_Qv (S := Unit) (p_X2_clear pt g pr) (fun u t => jO D (jT aI aJ aZ) A (w_X2_clear_o aI aJ aZ q a b pt g pr u) t) A) (own := RX2) (nm := "clear") (by decide +kernel) rfl rfl rfl (Nat.le_of_ble_eq_true rfl) ?_
  intro p e s m below meth c A ls H locs C hP hD hS hl
  obtain ⟨hx, hb, hml, hown, hts, hK, hA, hlocks, hr, hn, hN⟩ := id C
  have L_9 := hts (.fieldLink RX2 9 "Phasehall$Matching" "ofLeft" "[I") (List.mem_of_getElem? (i := 1) rfl)
  have L_15 := hts (.fieldLink RX2 15 "Phasehall$Matching" "ofRight" "[I") (List.mem_of_getElem? (i := 2) rfl)
  have L_24 := hts (.fieldLink RX2 24 "Phasehall$Matching" "pairs" "I") (List.mem_of_getElem? (i := 3) rfl)
  have inX2 : ∀ w ∈ wsX20, w ∈ wsX2_clear := fun _ h => List.mem_cons_of_mem _ (List.mem_append_right _ h)
  have hl : lv_has ls 1 [(0, .ref q)] := hl
  refine lv_aload_n hx hb dX2_clear_0 rfl (lv_at hl 0 rfl) ?_
  refine va_get (D := D) (ci := 2) (v := .ref a) (C := RX2) (T := TX2) (N := 3) hx hb hts inX2 hown hK hP 0 rfl rfl 0 (by decide) L_9 (fun _ h9 => h9) rfl dX2_clear_1 ?_
  refine lv_iconst (v := oI none) hx hb dX2_clear_4 (by decide) ?_
  refine j_callv (va_runS (As := [.ref a, .int (oI none)]) (rest := []) C.fix (c_J7_fill_53178 l D aI aJ aZ a pt (oI none) 12 (show 12 < 2 ^ 31 from by first | omega | assumption | rfl | (simp_all; done)) H.size) (va_cwS 2 hts gX2_clear_J7_fill_53178 rfl rfl rfl (by decide +kernel) ⟨Nat.le_of_ble_eq_true rfl, Nat.le_of_ble_eq_true rfl⟩) (jPreS hN hK hP hD [1] rfl rfl (by decide)) rfl rfl hl.1 rfl (lv_room (Nat.le_of_ble_eq_true rfl)) dX2_clear_5 ⟨Nat.zero_le _, Nat.zero_le _⟩) hA hP hD hS [1] [0, 2] (wr := [(q, .inr (2, [.ref a, .ref b, .int pr])), (b, .inl (aI, 12, (.inl (g))))]) rfl rfl (by decide) (by decide) (fun u_5 H locs q_5 hP hD hS => ?_)
  have hP : va_P D vwCl [(q, .inr (2, [.ref a, .ref b, .int pr])), (b, .inl (aI, 12, (.inl (g)))), (a, .inl (aI, 12, (.inl (fun _ => (oI none)))))] H := hP
  have hD : va_D A [(q, .inr (2, [.ref a, .ref b, .int pr])), (b, .inl (aI, 12, (.inl (g)))), (a, .inl (aI, 12, (.inl (fun _ => (oI none)))))] := hD
  refine lv_aload_n hx hb dX2_clear_8 rfl (lv_at hl 0 rfl) ?_
  refine va_get (D := D) (ci := 2) (v := .ref b) (C := RX2) (T := TX2) (N := 3) hx hb hts inX2 hown hK hP 0 rfl rfl 1 (by decide) L_15 (fun _ h9 => h9) rfl dX2_clear_9 ?_
  refine lv_iconst (v := oI none) hx hb dX2_clear_12 (by decide) ?_
  refine j_callv (va_runS (As := [.ref b, .int (oI none)]) (rest := []) C.fix (c_J7_fill_53178 l D aI aJ aZ b g (oI none) 12 (show 12 < 2 ^ 31 from by first | omega | assumption | rfl | (simp_all; done)) H.size) (va_cwS 2 hts gX2_clear_J7_fill_53178 rfl rfl rfl (by decide +kernel) ⟨Nat.le_of_ble_eq_true rfl, Nat.le_of_ble_eq_true rfl⟩) (jPreS hN hK hP hD [1] rfl rfl (by decide)) rfl rfl hl.1 rfl (lv_room (Nat.le_of_ble_eq_true rfl)) dX2_clear_13 ⟨Nat.zero_le _, Nat.zero_le _⟩) hA hP hD hS [1] [0, 2] (wr := [(q, .inr (2, [.ref a, .ref b, .int pr])), (a, .inl (aI, 12, (.inl (fun _ => (oI none)))))]) rfl rfl (by decide) (by decide) (fun u_13 H locs q_13 hP hD hS => ?_)
  have hP : va_P D vwCl [(q, .inr (2, [.ref a, .ref b, .int pr])), (a, .inl (aI, 12, (.inl (fun _ => (oI none))))), (b, .inl (aI, 12, (.inl (fun _ => (oI none)))))] H := hP
  have hD : va_D A [(q, .inr (2, [.ref a, .ref b, .int pr])), (a, .inl (aI, 12, (.inl (fun _ => (oI none))))), (b, .inl (aI, 12, (.inl (fun _ => (oI none)))))] := hD
  refine lv_aload_n hx hb dX2_clear_16 rfl (lv_at hl 0 rfl) ?_
  refine lv_iconst (v := nI 0) hx hb dX2_clear_17 (by decide) ?_
  refine va_put (D := D) (ci := 2) (v := .int (nI 0)) (ty := .int) (C := RX2) (T := TX2) (N := 3) hx hb hts inX2 tyX2 tyX2_ok nmX2 hown hK hP hD hS 0 rfl rfl 2 (by decide) L_24 (fun _ h9 => h9) rfl (by decide +kernel) rfl rfl (Nat.le_of_ble_eq_true rfl) dX2_clear_18 (fun H locs hP hD hS => ?_)
  have hP : va_P D vwCl [(q, .inr (2, [.ref a, .ref b, .int (nI 0)])), (a, .inl (aI, 12, (.inl (fun _ => (oI none))))), (b, .inl (aI, 12, (.inl (fun _ => (oI none)))))] H := hP
  have hD : va_D A [(q, .inr (2, [.ref a, .ref b, .int (nI 0)])), (a, .inl (aI, 12, (.inl (fun _ => (oI none))))), (b, .inl (aI, 12, (.inl (fun _ => (oI none)))))] := hD
  have hP := va_reA (g := fun kk => oI ((fun _ => none) kk)) hP 1 rfl (fun kk hkk => by rfl)
  have hD := hD.set (p := 1) (e := .inl (aI, 12, (.inl (fun kk => oI ((fun _ => none) kk))))) rfl
  have hP := va_reA (g := fun kk => oI ((fun _ => none) kk)) hP 2 rfl (fun kk hkk => by rfl)
  have hD := hD.set (p := 2) (e := .inl (aI, 12, (.inl (fun kk => oI ((fun _ => none) kk))))) rfl
  have hP : va_P D vwCl [(q, .inr (2, [.ref a, .ref b, .int (nI 0)])), (a, .inl (aI, 12, (.inl (fun kk => oI ((fun _ => none) kk))))), (b, .inl (aI, 12, (.inl (fun kk => oI ((fun _ => none) kk)))))] H := hP
  have hD : va_D A [(q, .inr (2, [.ref a, .ref b, .int (nI 0)])), (a, .inl (aI, 12, (.inl (fun kk => oI ((fun _ => none) kk))))), (b, .inl (aI, 12, (.inl (fun kk => oI ((fun _ => none) kk)))))] := hD
  exact j_vret (w1 := fun u => w_X2_clear_o aI aJ aZ q a b pt g pr u) (post := p_X2_clear pt g pr) C () hP hD hS trivial dX2_clear_21
abbrev w_X2_become_o (aI aJ aZ : ClassId) (q q2 a b a2 b2 : Nat) (pt : Nat → Int32) (g : Nat → Int32) (pr : Int32) (p2 : Nat → Int32) (g2 : Nat → Int32) (pr2 : Int32) (uu0 : Unit) : va_W := [(q, .inr (2, [.ref a, .ref b, .int pr2])), (a, .inl (aI, 12, (.inl (p2)))), (b, .inl (aI, 12, (.inl (g2)))), (q2, .inr (2, [.ref a2, .ref b2, .int pr2])), (a2, .inl (aI, 12, (.inl (p2)))), (b2, .inl (aI, 12, (.inl (g2))))]
abbrev p_X2_become (pt : Nat → Int32) (g : Nat → Int32) (pr : Int32) (p2 : Nat → Int32) (g2 : Nat → Int32) (pr2 : Int32) (uu0 : Unit) : Prop := True
set_option maxHeartbeats 4000000 in
set_option maxRecDepth 100000 in
theorem c_X2_become (l : Launch) (D : va_G) (aI aJ aZ : ClassId) (q q2 a b a2 b2 : Nat) (pt : Nat → Int32) (g : Nat → Int32) (pr : Int32) (p2 : Nat → Int32) (g2 : Nat → Int32) (pr2 : Int32)  (sz : Nat) : Met l yX2_become wsX2_become ({ frames := 1, cells := 0, slots := 0, locals := 40 }) (va_Pc [.ref q, .ref q2] (jI D (jT aI aJ aZ) [(q, .inr (2, [.ref a, .ref b, .int pr])), (a, .inl (aI, 12, (.inl (pt)))), (b, .inl (aI, 12, (.inl (g)))), (q2, .inr (2, [.ref a2, .ref b2, .int pr2])), (a2, .inl (aI, 12, (.inl (p2)))), (b2, .inl (aI, 12, (.inl (g2))))] sz)) (va_Qv (S := Unit) (p_X2_become pt g pr p2 g2 pr2) (fun u t => jO D (jT aI aJ aZ) (va_A [(q, .inr (2, [.ref a, .ref b, .int pr])), (a, .inl (aI, 12, (.inl (pt)))), (b, .inl (aI, 12, (.inl (g)))), (q2, .inr (2, [.ref a2, .ref b2, .int pr2])), (a2, .inl (aI, 12, (.inl (p2)))), (b2, .inl (aI, 12, (.inl (g2))))] sz) (w_X2_become_o aI aJ aZ q q2 a b a2 b2 pt g pr p2 g2 pr2 u) t) (va_A [(q, .inr (2, [.ref a, .ref b, .int pr])), (a, .inl (aI, 12, (.inl (pt)))), (b, .inl (aI, 12, (.inl (g)))), (q2, .inr (2, [.ref a2, .ref b2, .int pr2])), (a2, .inl (aI, 12, (.inl (p2)))), (b2, .inl (aI, 12, (.inl (g2))))] sz)) 0 0 (va_A [(q, .inr (2, [.ref a, .ref b, .int pr])), (a, .inl (aI, 12, (.inl (pt)))), (b, .inl (aI, 12, (.inl (g)))), (q2, .inr (2, [.ref a2, .ref b2, .int pr2])), (a2, .inl (aI, 12, (.inl (p2)))), (b2, .inl (aI, 12, (.inl (g2))))] sz) := by
  refine j_of (Qc := fun A => va_Qv (S := Unit) (p_X2_become pt g pr p2 g2 pr2) (fun u t => jO D (jT aI aJ aZ) A (w_X2_become_o aI aJ aZ q q2 a b a2 b2 pt g pr p2 g2 pr2 u) t) A) (own := RX2) (nm := "become") (by decide +kernel) rfl rfl rfl (Nat.le_of_ble_eq_true rfl) ?_
  intro p e s m below meth c A ls H locs C hP hD hS hl
  obtain ⟨hx, hb, hml, hown, hts, hK, hA, hlocks, hr, hn, hN⟩ := id C
  have L_9 := hts (.fieldLink RX2 9 "Phasehall$Matching" "ofLeft" "[I") (List.mem_of_getElem? (i := 1) rfl)
  have L_15 := hts (.fieldLink RX2 15 "Phasehall$Matching" "ofRight" "[I") (List.mem_of_getElem? (i := 6) rfl)
  have L_24 := hts (.fieldLink RX2 24 "Phasehall$Matching" "pairs" "I") (List.mem_of_getElem? (i := 7) rfl)
  have L_28 := hts (.methodLink RX2 28 arraycopyName) (List.mem_of_getElem? (i := 2) rfl)
  have inX2 : ∀ w ∈ wsX20, w ∈ wsX2_become := fun _ h => List.mem_cons_of_mem _ (List.mem_append_right _ h)
  have hl : lv_has ls 2 [(0, .ref q), (1, .ref q2)] := hl
  refine lv_aload_n hx hb dX2_become_0 rfl (lv_at hl 1 rfl) ?_
  refine va_get (D := D) (ci := 2) (v := .ref a2) (C := RX2) (T := TX2) (N := 3) hx hb hts inX2 hown hK hP 3 rfl rfl 0 (by decide) L_9 (fun _ h9 => h9) rfl dX2_become_1 ?_
  refine lv_iconst (v := nI 0) hx hb dX2_become_4 (by decide) ?_
  refine lv_aload_n hx hb dX2_become_5 rfl (lv_at hl 0 rfl) ?_
  refine va_get (D := D) (ci := 2) (v := .ref a) (C := RX2) (T := TX2) (N := 3) hx hb hts inX2 hown hK hP 0 rfl rfl 0 (by decide) L_9 (fun _ h9 => h9) rfl dX2_become_6 ?_
  refine lv_iconst (v := nI 0) hx hb dX2_become_9 (by decide) ?_
  refine lv_bipush (v := nI 12) hx hb dX2_become_10 (by decide) ?_
  refine va_copyi hx hb (hml.trans hl.1.symm) hown L_28 (hts (.native arraycopyName) (List.mem_of_getElem? (i := 3) rfl)) (hts (.static arraycopyName) (List.mem_of_getElem? (i := 4) rfl)) (hts (.initialized "java/lang/System") (List.mem_of_getElem? (i := 5) rfl)) hK hP hD hS 4 1 0 0 rfl rfl rfl rfl rfl (by decide) (by decide) (by decide) (by decide) (by decide) (fun _ _ => rfl) (Nat.le_of_ble_eq_true rfl) (Nat.le_of_ble_eq_true rfl) dX2_become_12 (fun H locs hP hD hS => ?_)
  have hP : va_P D vwCl [(q, .inr (2, [.ref a, .ref b, .int pr])), (a, .inl (aI, 12, (.inl (va_cpy (p2) (pt) (nI 0).toNatClampNeg (nI 0).toNatClampNeg (nI 12).toNatClampNeg)))), (b, .inl (aI, 12, (.inl (g)))), (q2, .inr (2, [.ref a2, .ref b2, .int pr2])), (a2, .inl (aI, 12, (.inl (p2)))), (b2, .inl (aI, 12, (.inl (g2))))] H := hP
  have hD : va_D A [(q, .inr (2, [.ref a, .ref b, .int pr])), (a, .inl (aI, 12, (.inl (va_cpy (p2) (pt) (nI 0).toNatClampNeg (nI 0).toNatClampNeg (nI 12).toNatClampNeg)))), (b, .inl (aI, 12, (.inl (g)))), (q2, .inr (2, [.ref a2, .ref b2, .int pr2])), (a2, .inl (aI, 12, (.inl (p2)))), (b2, .inl (aI, 12, (.inl (g2))))] := hD
  have hP := va_reA (g := p2) hP 1 rfl (fun kk hkk => by exact cpy12 hkk)
  have hD := hD.set (p := 1) (e := .inl (aI, 12, (.inl (p2)))) rfl
  have hP : va_P D vwCl [(q, .inr (2, [.ref a, .ref b, .int pr])), (a, .inl (aI, 12, (.inl (p2)))), (b, .inl (aI, 12, (.inl (g)))), (q2, .inr (2, [.ref a2, .ref b2, .int pr2])), (a2, .inl (aI, 12, (.inl (p2)))), (b2, .inl (aI, 12, (.inl (g2))))] H := hP
  have hD : va_D A [(q, .inr (2, [.ref a, .ref b, .int pr])), (a, .inl (aI, 12, (.inl (p2)))), (b, .inl (aI, 12, (.inl (g)))), (q2, .inr (2, [.ref a2, .ref b2, .int pr2])), (a2, .inl (aI, 12, (.inl (p2)))), (b2, .inl (aI, 12, (.inl (g2))))] := hD
  refine lv_aload_n hx hb dX2_become_15 rfl (lv_at hl 1 rfl) ?_
  refine va_get (D := D) (ci := 2) (v := .ref b2) (C := RX2) (T := TX2) (N := 3) hx hb hts inX2 hown hK hP 3 rfl rfl 1 (by decide) L_15 (fun _ h9 => h9) rfl dX2_become_16 ?_
  refine lv_iconst (v := nI 0) hx hb dX2_become_19 (by decide) ?_
  refine lv_aload_n hx hb dX2_become_20 rfl (lv_at hl 0 rfl) ?_
  refine va_get (D := D) (ci := 2) (v := .ref b) (C := RX2) (T := TX2) (N := 3) hx hb hts inX2 hown hK hP 0 rfl rfl 1 (by decide) L_15 (fun _ h9 => h9) rfl dX2_become_21 ?_
  refine lv_iconst (v := nI 0) hx hb dX2_become_24 (by decide) ?_
  refine lv_bipush (v := nI 12) hx hb dX2_become_25 (by decide) ?_
  refine va_copyi hx hb (hml.trans hl.1.symm) hown L_28 (hts (.native arraycopyName) (List.mem_of_getElem? (i := 3) rfl)) (hts (.static arraycopyName) (List.mem_of_getElem? (i := 4) rfl)) (hts (.initialized "java/lang/System") (List.mem_of_getElem? (i := 5) rfl)) hK hP hD hS 5 2 0 0 rfl rfl rfl rfl rfl (by decide) (by decide) (by decide) (by decide) (by decide) (fun _ _ => rfl) (Nat.le_of_ble_eq_true rfl) (Nat.le_of_ble_eq_true rfl) dX2_become_27 (fun H locs hP hD hS => ?_)
  have hP : va_P D vwCl [(q, .inr (2, [.ref a, .ref b, .int pr])), (a, .inl (aI, 12, (.inl (p2)))), (b, .inl (aI, 12, (.inl (va_cpy (g2) (g) (nI 0).toNatClampNeg (nI 0).toNatClampNeg (nI 12).toNatClampNeg)))), (q2, .inr (2, [.ref a2, .ref b2, .int pr2])), (a2, .inl (aI, 12, (.inl (p2)))), (b2, .inl (aI, 12, (.inl (g2))))] H := hP
  have hD : va_D A [(q, .inr (2, [.ref a, .ref b, .int pr])), (a, .inl (aI, 12, (.inl (p2)))), (b, .inl (aI, 12, (.inl (va_cpy (g2) (g) (nI 0).toNatClampNeg (nI 0).toNatClampNeg (nI 12).toNatClampNeg)))), (q2, .inr (2, [.ref a2, .ref b2, .int pr2])), (a2, .inl (aI, 12, (.inl (p2)))), (b2, .inl (aI, 12, (.inl (g2))))] := hD
  have hP := va_reA (g := g2) hP 2 rfl (fun kk hkk => by exact cpy12 hkk)
  have hD := hD.set (p := 2) (e := .inl (aI, 12, (.inl (g2)))) rfl
  have hP : va_P D vwCl [(q, .inr (2, [.ref a, .ref b, .int pr])), (a, .inl (aI, 12, (.inl (p2)))), (b, .inl (aI, 12, (.inl (g2)))), (q2, .inr (2, [.ref a2, .ref b2, .int pr2])), (a2, .inl (aI, 12, (.inl (p2)))), (b2, .inl (aI, 12, (.inl (g2))))] H := hP
  have hD : va_D A [(q, .inr (2, [.ref a, .ref b, .int pr])), (a, .inl (aI, 12, (.inl (p2)))), (b, .inl (aI, 12, (.inl (g2)))), (q2, .inr (2, [.ref a2, .ref b2, .int pr2])), (a2, .inl (aI, 12, (.inl (p2)))), (b2, .inl (aI, 12, (.inl (g2))))] := hD
  refine lv_aload_n hx hb dX2_become_30 rfl (lv_at hl 0 rfl) ?_
  refine lv_aload_n hx hb dX2_become_31 rfl (lv_at hl 1 rfl) ?_
  refine va_get (D := D) (ci := 2) (v := .int pr2) (C := RX2) (T := TX2) (N := 3) hx hb hts inX2 hown hK hP 3 rfl rfl 2 (by decide) L_24 (fun _ h9 => h9) rfl dX2_become_32 ?_
  refine va_put (D := D) (ci := 2) (v := .int pr2) (ty := .int) (C := RX2) (T := TX2) (N := 3) hx hb hts inX2 tyX2 tyX2_ok nmX2 hown hK hP hD hS 0 rfl rfl 2 (by decide) L_24 (fun _ h9 => h9) rfl (by decide +kernel) rfl rfl (Nat.le_of_ble_eq_true rfl) dX2_become_35 (fun H locs hP hD hS => ?_)
  have hP : va_P D vwCl [(q, .inr (2, [.ref a, .ref b, .int pr2])), (a, .inl (aI, 12, (.inl (p2)))), (b, .inl (aI, 12, (.inl (g2)))), (q2, .inr (2, [.ref a2, .ref b2, .int pr2])), (a2, .inl (aI, 12, (.inl (p2)))), (b2, .inl (aI, 12, (.inl (g2))))] H := hP
  have hD : va_D A [(q, .inr (2, [.ref a, .ref b, .int pr2])), (a, .inl (aI, 12, (.inl (p2)))), (b, .inl (aI, 12, (.inl (g2)))), (q2, .inr (2, [.ref a2, .ref b2, .int pr2])), (a2, .inl (aI, 12, (.inl (p2)))), (b2, .inl (aI, 12, (.inl (g2))))] := hD
  exact j_vret (w1 := fun u => w_X2_become_o aI aJ aZ q q2 a b a2 b2 pt g pr p2 g2 pr2 u) (post := p_X2_become pt g pr p2 g2 pr2) C () hP hD hS trivial dX2_become_38
abbrev w_X6_lowest_o (aI aJ aZ : ClassId)  (a : Nat) (uu0 : Unit) : va_W := []
abbrev p_X6_lowest (a : Nat) (rr0 : Int32) (uu0 : Unit) : Prop := rr0 = oI (lw 12 (fun z => a.testBit z)) ∧ (True)
set_option maxHeartbeats 4000000 in
set_option maxRecDepth 100000 in
theorem c_X6_lowest (l : Launch) (D : va_G) (aI aJ aZ : ClassId)  (a : Nat) (ha : a < 2 ^ 31) (sz : Nat) : Met l yX6_lowest wsX6_lowest ({ frames := 1, cells := 0, slots := 0, locals := 21 }) (va_Pc [.int (nI a)] (jI D (jT aI aJ aZ) [] sz)) (va_Qi (S := Unit) (p_X6_lowest a) (fun u t => jO D (jT aI aJ aZ) (va_A [] sz) (w_X6_lowest_o aI aJ aZ a u) t) (va_A [] sz)) 0 0 (va_A [] sz) := by
  refine j_of (Qc := fun A => va_Qi (S := Unit) (p_X6_lowest a) (fun u t => jO D (jT aI aJ aZ) A (w_X6_lowest_o aI aJ aZ a u) t) A) (own := RX6) (nm := "lowest") (by decide +kernel) rfl rfl rfl (Nat.le_of_ble_eq_true rfl) ?_
  intro p e s m below meth c A ls H locs C hP hD hS hl
  obtain ⟨hx, hb, hml, hown, hts, hK, hA, hlocks, hr, hn, hN⟩ := id C
  have key : ∀ N : Nat, (∀ (i : Nat) (H : Heap) (locs : List Loc) (ls : Array Slot), (13 - i) < N → (i ≤ 12) → (∀ j, j < i → a.testBit j = false) → va_P D vwCl [] H → va_D A [] → va_S A s.heap H locs → lv_has ls 2 [(0, .int (nI a)), (1, .int (nI i))] → W p l e ({ frames := 1, cells := 0, slots := 0, locals := 21 }) s m ([.int (nI a)] : List Value).toArray below meth c H locs 0 0 (MQ below (va_Qi (S := Unit) (p_X6_lowest a) (fun u t => jO D (jT aI aJ aZ) A (w_X6_lowest_o aI aJ aZ a u) t) A) ([.int (nI a)] : List Value).toArray s 0 0 A) (F0 m 2 ls [])) := by
    intro N
    induction N with
    | zero => exact fun _ _ _ _ h => absurd h (Nat.not_lt_zero _)
    | succ N ih =>
      have ih2 := ih
      intro i H locs ls hmeas hi hz hP hD hS hl
      refine lv_iload_n hx hb dX6_lowest_2 rfl (lv_at hl 1 rfl) ?_
      refine lv_bipush (v := nI 12) hx hb dX6_lowest_3 (by decide) ?_
      refine lv_icmp_ge (tgt := 24) hx hb dX6_lowest_5 (by decide) (fun c_5 => ?_) (fun c_5 => ?_)
      · rw [cv_le (by omega) (by omega)] at c_5
        refine lv_iconst (v := oI none) hx hb dX6_lowest_24 (by decide) ?_
        have eV : oI none = oI (lw 12 (fun z => a.testBit z)) := by rw [lw_none (fun j hj => hz j (by omega))]
        exact j_iret (w1 := fun u => w_X6_lowest_o aI aJ aZ a u) (post := p_X6_lowest a) C () hP hD hS ⟨eV, trivial⟩ dX6_lowest_25
      · rw [cv_le (by omega) (by omega)] at c_5
        refine lv_iload_n hx hb dX6_lowest_8 rfl (lv_at hl 0 rfl) ?_
        refine lv_iload_n hx hb dX6_lowest_9 rfl (lv_at hl 1 rfl) ?_
        refine j_calli (va_runS (As := [.int (nI a), .int (nI i)]) (rest := []) C.fix (c_X6_holds l D aI aJ aZ a i (show a < 2 ^ 31 from by first | omega | assumption | rfl | (simp_all; done)) (show i < 31 from by first | omega | assumption | rfl | (simp_all; done)) H.size) (va_cwS 2 hts gX6_lowest_X6_holds rfl rfl rfl (by decide +kernel) ⟨Nat.le_of_ble_eq_true rfl, Nat.le_of_ble_eq_true rfl⟩) (jPreS hN hK hP hD [] rfl rfl (by decide)) rfl rfl hl.1 rfl (lv_room (Nat.le_of_ble_eq_true rfl)) dX6_lowest_10 ⟨Nat.zero_le _, Nat.zero_le _⟩) hA hP hD hS [] [] (wr := []) rfl rfl (by decide) (by decide) (fun r_10 u_10 H locs q_10 hP hD hS => ?_)
        obtain ⟨rfl, -⟩ := q_10
        have hP : va_P D vwCl [] H := hP
        have hD : va_D A [] := hD
        refine lv_if_eq (tgt := 18) hx hb dX6_lowest_13 (by decide) (fun c_13 => ?_) (fun c_13 => ?_)
        · rw [cv_b0] at c_13
          refine lv_iinc (v := nI (i + 1)) (lv' := [(1, .int (nI (i + 1))), (0, .int (nI a))]) hx hb dX6_lowest_18 hl (k := 1) rfl (inc_nI i 1) (by decide) rfl (fun ls hl => ?_)
          refine lv_goto (tgt := 2) hx hb dX6_lowest_21 (by decide) ?_
          have hl := lv_sub (l' := [(0, .int (nI a)), (1, .int (nI (i + 1)))]) hl [1, 0] rfl
          exact ih2 (i + 1) _ _ _ (by omega) (show (i + 1) ≤ 12 from by first | omega | assumption | rfl | (simp_all; done)) (show ∀ j, j < (i + 1) → a.testBit j = false from by intro j hj; first | omega | (by_cases e : j = i; subst e; exact c_13; exact hz j (by omega))) hP hD hS hl
        · rw [cv_b0] at c_13
          rw [cv_nb] at c_13
          refine lv_iload_n hx hb dX6_lowest_16 rfl (lv_at hl 1 rfl) ?_
          have eV : nI i = oI (lw 12 (fun z => a.testBit z)) := by rw [lw_eq (by omega) c_13 hz]; rfl
          exact j_iret (w1 := fun u => w_X6_lowest_o aI aJ aZ a u) (post := p_X6_lowest a) C () hP hD hS ⟨eV, trivial⟩ dX6_lowest_17
  have hl : lv_has ls 2 [(0, .int (nI a))] := hl
  refine lv_iconst (v := nI 0) hx hb dX6_lowest_0 (by decide) ?_
  refine lv_istore_n (lv' := [(1, .int (nI 0)), (0, .int (nI a))]) hx hb dX6_lowest_1 rfl hl (by decide) rfl (fun ls hl => ?_)
  have hl := lv_sub (l' := [(0, .int (nI a)), (1, .int (nI 0))]) hl [1, 0] rfl
  exact (key _) 0 _ _ _ (Nat.lt_succ_self _) (show 0 ≤ 12 from by first | omega | assumption | rfl | (simp_all; done)) (show ∀ j, j < 0 → a.testBit j = false from by intro j hj; first | omega | (by_cases e : j = i; subst e; exact c_13; exact hz j (by omega))) hP hD hS hl
abbrev w_X0_partners_o (aI aJ aZ : ClassId) (q : Nat) (pt : Nat → Option Nat) (f : Nat → Bool) (uu0 : Unit) : va_W := [(q, .inl (aI, 12, (.inl (fun kk => oI (pt kk)))))]
abbrev p_X0_partners (pt : Nat → Option Nat) (f : Nat → Bool) (rr0 : Int32) (uu0 : Unit) : Prop := rr0 = nI (mk (ptn pt f)) ∧ (True)
set_option maxHeartbeats 4000000 in
set_option maxRecDepth 100000 in
theorem c_X0_partners (l : Launch) (D : va_G) (aI aJ aZ : ClassId) (q : Nat) (pt : Nat → Option Nat) (f : Nat → Bool) (hp : ∀ k v, pt k = some v → v < 12) (sz : Nat) : Met l yX0_partners wsX0_partners ({ frames := 1, cells := 0, slots := 0, locals := 21 }) (va_Pc [.ref q, .int (nI (mk f))] (jI D (jT aI aJ aZ) [(q, .inl (aI, 12, (.inl (fun kk => oI (pt kk)))))] sz)) (va_Qi (S := Unit) (p_X0_partners pt f) (fun u t => jO D (jT aI aJ aZ) (va_A [(q, .inl (aI, 12, (.inl (fun kk => oI (pt kk)))))] sz) (w_X0_partners_o aI aJ aZ q pt f u) t) (va_A [(q, .inl (aI, 12, (.inl (fun kk => oI (pt kk)))))] sz)) 0 0 (va_A [(q, .inl (aI, 12, (.inl (fun kk => oI (pt kk)))))] sz) := by
  refine j_of (Qc := fun A => va_Qi (S := Unit) (p_X0_partners pt f) (fun u t => jO D (jT aI aJ aZ) A (w_X0_partners_o aI aJ aZ q pt f u) t) A) (own := RX0) (nm := "partners") (by decide +kernel) rfl rfl rfl (Nat.le_of_ble_eq_true rfl) ?_
  intro p e s m below meth c A ls H locs C hP hD hS hl
  obtain ⟨hx, hb, hml, hown, hts, hK, hA, hlocks, hr, hn, hN⟩ := id C
  have key : ∀ N : Nat, (∀ (i : Nat) (H : Heap) (locs : List Loc) (ls : Array Slot), (13 - i) < N → (i ≤ 12) → va_P D vwCl [(q, .inl (aI, 12, (.inl (fun kk => oI (pt kk)))))] H → va_D A [(q, .inl (aI, 12, (.inl (fun kk => oI (pt kk)))))] → va_S A s.heap H locs → lv_has ls 4 [(0, .ref q), (1, .int (nI (mk f))), (2, .int (nI (mk (fun z => ex i (fun w => f w && (pt w == some z)))))), (3, .int (nI i))] → W p l e ({ frames := 1, cells := 0, slots := 0, locals := 21 }) s m ([.ref q, .int (nI (mk f))] : List Value).toArray below meth c H locs 0 0 (MQ below (va_Qi (S := Unit) (p_X0_partners pt f) (fun u t => jO D (jT aI aJ aZ) A (w_X0_partners_o aI aJ aZ q pt f u) t) A) ([.ref q, .int (nI (mk f))] : List Value).toArray s 0 0 A) (F0 m 4 ls [])) := by
    intro N
    induction N with
    | zero => exact fun _ _ _ _ h => absurd h (Nat.not_lt_zero _)
    | succ N ih =>
      have ih4 := ih
      intro i H locs ls hmeas hi hP hD hS hl
      refine lv_iload_n hx hb dX0_partners_4 rfl (lv_at hl 3 rfl) ?_
      refine lv_bipush (v := nI 12) hx hb dX0_partners_5 (by decide) ?_
      refine lv_icmp_ge (tgt := 39) hx hb dX0_partners_7 (by decide) (fun c_7 => ?_) (fun c_7 => ?_)
      · rw [cv_le (by omega) (by omega)] at c_7
        refine lv_iload_n hx hb dX0_partners_39 rfl (lv_at hl 2 rfl) ?_
        have eV : nI (mk (fun z => ex i (fun w => f w && (pt w == some z)))) = nI (mk (ptn pt f)) := by rw [show i = 12 by omega]; rfl
        exact j_iret (w1 := fun u => w_X0_partners_o aI aJ aZ q pt f u) (post := p_X0_partners pt f) C () hP hD hS ⟨eV, trivial⟩ dX0_partners_40
      · rw [cv_le (by omega) (by omega)] at c_7
        refine lv_iload_n hx hb dX0_partners_10 rfl (lv_at hl 1 rfl) ?_
        refine lv_iload_n hx hb dX0_partners_11 rfl (lv_at hl 3 rfl) ?_
        refine j_calli (va_runSN (As := [.int (nI (mk f)), .int (nI i)]) (rest := []) C.fix (c_X6_holds l D aI aJ aZ (mk f) i (show (mk f) < 2 ^ 31 from by exact Nat.lt_trans (mk_lt _) (by decide)) (show i < 31 from by first | omega | assumption | rfl | (simp_all; done)) H.size) ⟨(va_cnB 2 hts gX0_partners_X6_holds_n68 rfl rfl rfl (hN (RX0, 68, yX6_holds) (by decide +kernel)) (hts (.initialized RX6) (List.mem_of_getElem? (i := 2) rfl)) (by decide +kernel) ⟨Nat.le_of_ble_eq_true rfl, Nat.le_of_ble_eq_true rfl⟩), (hts (.static yX6_holds) (List.mem_of_getElem? (i := 1) rfl)), trivial⟩ (jPreS hN hK hP hD [] rfl rfl (by decide)) rfl rfl hl.1 rfl (lv_room (Nat.le_of_ble_eq_true rfl)) dX0_partners_12 ⟨Nat.zero_le _, Nat.zero_le _⟩) hA hP hD hS [] [0] (wr := [(q, .inl (aI, 12, (.inl (fun kk => oI (pt kk)))))]) rfl rfl (by decide) (by decide) (fun r_12 u_12 H locs q_12 hP hD hS => ?_)
        obtain ⟨rfl, -⟩ := q_12
        have hP : va_P D vwCl [(q, .inl (aI, 12, (.inl (fun kk => oI (pt kk)))))] H := hP
        have hD : va_D A [(q, .inl (aI, 12, (.inl (fun kk => oI (pt kk)))))] := hD
        refine j_topi (y := (bI (f i))) (by rw [mk_tb' _ (by omega)]) ?_
        refine lv_if_eq (tgt := 33) hx hb dX0_partners_15 (by decide) (fun c_15 => ?_) (fun c_15 => ?_)
        · rw [cv_b0] at c_15
          refine lv_iinc (v := nI (i + 1)) (lv' := [(3, .int (nI (i + 1))), (0, .ref q), (1, .int (nI (mk f))), (2, .int (nI (mk (fun z => ex i (fun w => f w && (pt w == some z))))))]) hx hb dX0_partners_33 hl (k := 3) rfl (inc_nI i 1) (by decide) rfl (fun ls hl => ?_)
          refine lv_goto (tgt := 4) hx hb dX0_partners_36 (by decide) ?_
          have hl := lv_sub (l' := [(0, .ref q), (1, .int (nI (mk f))), (2, .int (nI (mk (fun z => ex i (fun w => f w && (pt w == some z)))))), (3, .int (nI (i + 1)))]) hl [1, 2, 3, 0] rfl
          have hl := lv_re hl 2 rfl (show (.int (nI (mk (fun z => ex i (fun w => f w && (pt w == some z))))) : Value) = .int (nI (mk (fun z => ex (i + 1) (fun w => f w && (pt w == some z))))) from congrArg _ (by exact congrArg nI (mk_congr (fun z hz => by simp [ex_succ, c_15]))))
          have hl : lv_has ls 4 [(0, .ref q), (1, .int (nI (mk f))), (2, .int (nI (mk (fun z => ex (i + 1) (fun w => f w && (pt w == some z)))))), (3, .int (nI (i + 1)))] := hl
          exact ih4 (i + 1) _ _ _ (by omega) (show (i + 1) ≤ 12 from by first | omega | assumption | rfl | (simp_all; done)) hP hD hS hl
        · rw [cv_b0] at c_15
          rw [cv_nb] at c_15
          refine lv_aload_n hx hb dX0_partners_18 rfl (lv_at hl 0 rfl) ?_
          refine lv_iload_n hx hb dX0_partners_19 rfl (lv_at hl 3 rfl) ?_
          refine j_iald (v := oI (pt i)) hx hb hK hP 0 0 rfl rfl (by omega) (by omega) (rfl) dX0_partners_20 ?_
          refine lv_iconst (v := oI none) hx hb dX0_partners_21 (by decide) ?_
          refine lv_icmp_eq (tgt := 33) hx hb dX0_partners_22 (by decide) (fun c_22 => ?_) (fun c_22 => ?_)
          · rw [show oI none = (-1 : Int32) from rfl, cv_oN (fun v hv => Nat.lt_trans (hp _ v hv) (by decide))] at c_22
            refine lv_iinc (v := nI (i + 1)) (lv' := [(3, .int (nI (i + 1))), (0, .ref q), (1, .int (nI (mk f))), (2, .int (nI (mk (fun z => ex i (fun w => f w && (pt w == some z))))))]) hx hb dX0_partners_33 hl (k := 3) rfl (inc_nI i 1) (by decide) rfl (fun ls hl => ?_)
            refine lv_goto (tgt := 4) hx hb dX0_partners_36 (by decide) ?_
            have hl := lv_sub (l' := [(0, .ref q), (1, .int (nI (mk f))), (2, .int (nI (mk (fun z => ex i (fun w => f w && (pt w == some z)))))), (3, .int (nI (i + 1)))]) hl [1, 2, 3, 0] rfl
            have hl := lv_re hl 2 rfl (show (.int (nI (mk (fun z => ex i (fun w => f w && (pt w == some z))))) : Value) = .int (nI (mk (fun z => ex (i + 1) (fun w => f w && (pt w == some z))))) from congrArg _ (by exact congrArg nI (mk_congr (fun z hz => by simp [ex_succ, c_15, c_22]))))
            have hl : lv_has ls 4 [(0, .ref q), (1, .int (nI (mk f))), (2, .int (nI (mk (fun z => ex (i + 1) (fun w => f w && (pt w == some z)))))), (3, .int (nI (i + 1)))] := hl
            exact ih4 (i + 1) _ _ _ (by omega) (show (i + 1) ≤ 12 from by first | omega | assumption | rfl | (simp_all; done)) hP hD hS hl
          · rw [show oI none = (-1 : Int32) from rfl, cv_oN (fun v hv => Nat.lt_trans (hp _ v hv) (by decide))] at c_22
            obtain ⟨v1, hv1⟩ := some_of c_22
            refine lv_iload_n hx hb dX0_partners_25 rfl (lv_at hl 2 rfl) ?_
            refine lv_iconst (v := nI 1) hx hb dX0_partners_26 (by decide) ?_
            refine lv_aload_n hx hb dX0_partners_27 rfl (lv_at hl 0 rfl) ?_
            refine lv_iload_n hx hb dX0_partners_28 rfl (lv_at hl 3 rfl) ?_
            refine j_iald (v := nI v1) hx hb hK hP 0 0 rfl rfl (by omega) (by omega) (by rw [hv1]; rfl) dX0_partners_29 ?_
            refine lv_ishl hx hb dX0_partners_30 ?_
            refine j_topi (y := (nI (2 ^ v1))) (one_shl (by have := hp _ _ hv1; omega)) ?_
            refine lv_ior hx hb dX0_partners_31 ?_
            refine j_topi (y := (nI (mk (fun z => ex i (fun w => f w && (pt w == some z)) || decide (z = v1))))) (by rw [fa_or, mk_or_bit _ (hp _ _ hv1)]) ?_
            refine lv_istore_n (lv' := [(2, .int (nI (mk (fun z => ex i (fun w => f w && (pt w == some z)) || decide (z = v1))))), (0, .ref q), (1, .int (nI (mk f))), (3, .int (nI i))]) hx hb dX0_partners_32 rfl hl (by decide) rfl (fun ls hl => ?_)
            refine lv_iinc (v := nI (i + 1)) (lv' := [(3, .int (nI (i + 1))), (2, .int (nI (mk (fun z => ex i (fun w => f w && (pt w == some z)) || decide (z = v1))))), (0, .ref q), (1, .int (nI (mk f)))]) hx hb dX0_partners_33 hl (k := 3) rfl (inc_nI i 1) (by decide) rfl (fun ls hl => ?_)
            refine lv_goto (tgt := 4) hx hb dX0_partners_36 (by decide) ?_
            have hl := lv_sub (l' := [(0, .ref q), (1, .int (nI (mk f))), (2, .int (nI (mk (fun z => ex i (fun w => f w && (pt w == some z)) || decide (z = v1))))), (3, .int (nI (i + 1)))]) hl [2, 3, 1, 0] rfl
            have hl := lv_re hl 2 rfl (show (.int (nI (mk (fun z => ex i (fun w => f w && (pt w == some z)) || decide (z = v1)))) : Value) = .int (nI (mk (fun z => ex (i + 1) (fun w => f w && (pt w == some z))))) from congrArg _ (by exact congrArg nI (mk_congr (fun z hz => by simp [ex_succ, c_15, hv1]; congr 1; rw [Bool.eq_iff_iff]; simp; exact eq_comm))))
            have hl : lv_has ls 4 [(0, .ref q), (1, .int (nI (mk f))), (2, .int (nI (mk (fun z => ex (i + 1) (fun w => f w && (pt w == some z)))))), (3, .int (nI (i + 1)))] := hl
            exact ih4 (i + 1) _ _ _ (by omega) (show (i + 1) ≤ 12 from by first | omega | assumption | rfl | (simp_all; done)) hP hD hS hl
  have hl : lv_has ls 4 [(0, .ref q), (1, .int (nI (mk f)))] := hl
  refine lv_iconst (v := nI 0) hx hb dX0_partners_0 (by decide) ?_
  refine lv_istore_n (lv' := [(2, .int (nI 0)), (0, .ref q), (1, .int (nI (mk f)))]) hx hb dX0_partners_1 rfl hl (by decide) rfl (fun ls hl => ?_)
  refine lv_iconst (v := nI 0) hx hb dX0_partners_2 (by decide) ?_
  refine lv_istore_n (lv' := [(3, .int (nI 0)), (2, .int (nI 0)), (0, .ref q), (1, .int (nI (mk f)))]) hx hb dX0_partners_3 rfl hl (by decide) rfl (fun ls hl => ?_)
  have hl := lv_sub (l' := [(0, .ref q), (1, .int (nI (mk f))), (2, .int (nI 0)), (3, .int (nI 0))]) hl [2, 3, 1, 0] rfl
  have hl := lv_re hl 2 rfl (show (.int (nI 0) : Value) = .int (nI (mk (fun z => ex 0 (fun w => f w && (pt w == some z))))) from congrArg _ (by exact (congrArg nI (mk_0 (fun _ _ => rfl))).symm))
  have hl : lv_has ls 4 [(0, .ref q), (1, .int (nI (mk f))), (2, .int (nI (mk (fun z => ex 0 (fun w => f w && (pt w == some z)))))), (3, .int (nI 0))] := hl
  exact (key _) 0 _ _ _ (Nat.lt_succ_self _) (show 0 ≤ 12 from by first | omega | assumption | rfl | (simp_all; done)) hP hD hS hl
abbrev w_X0_leftPart_o (aI aJ aZ : ClassId) (q r : Nat) (f : Nat → Bool) (g : Nat → Bool) (i : Nat) (fr : Int32) (gr : Int32) (uu0 : Unit) : va_W := [(q, .inr (0, [.ref r, .int (nI (mk f)), .int fr, .int (nI (mk g)), .int gr]))]
abbrev p_X0_leftPart (f : Nat → Bool) (g : Nat → Bool) (i : Nat) (fr : Int32) (gr : Int32) (rr0 : Int32) (uu0 : Unit) : Prop := rr0 = nI (if f i then 0 else if g i then 2 else 1) ∧ (True)
set_option maxHeartbeats 4000000 in
set_option maxRecDepth 100000 in
theorem c_X0_leftPart (l : Launch) (D : va_G) (aI aJ aZ : ClassId) (q r : Nat) (f : Nat → Bool) (g : Nat → Bool) (i : Nat) (fr : Int32) (gr : Int32) (hi1 : i < 12) (sz : Nat) : Met l yX0_leftPart wsX0_leftPart ({ frames := 2, cells := 0, slots := 0, locals := 43 }) (va_Pc [.ref q, .int (nI i)] (jI D (jT aI aJ aZ) [(q, .inr (0, [.ref r, .int (nI (mk f)), .int fr, .int (nI (mk g)), .int gr]))] sz)) (va_Qi (S := Unit) (p_X0_leftPart f g i fr gr) (fun u t => jO D (jT aI aJ aZ) (va_A [(q, .inr (0, [.ref r, .int (nI (mk f)), .int fr, .int (nI (mk g)), .int gr]))] sz) (w_X0_leftPart_o aI aJ aZ q r f g i fr gr u) t) (va_A [(q, .inr (0, [.ref r, .int (nI (mk f)), .int fr, .int (nI (mk g)), .int gr]))] sz)) 0 0 (va_A [(q, .inr (0, [.ref r, .int (nI (mk f)), .int fr, .int (nI (mk g)), .int gr]))] sz) := by
  refine j_of (Qc := fun A => va_Qi (S := Unit) (p_X0_leftPart f g i fr gr) (fun u t => jO D (jT aI aJ aZ) A (w_X0_leftPart_o aI aJ aZ q r f g i fr gr u) t) A) (own := RX0) (nm := "leftPart") (by decide +kernel) rfl rfl rfl (Nat.le_of_ble_eq_true rfl) ?_
  intro p e s m below meth c A ls H locs C hP hD hS hl
  obtain ⟨hx, hb, hml, hown, hts, hK, hA, hlocks, hr, hn, hN⟩ := id C
  have L_27 := hts (.fieldLink RX0 27 "Phasehall$Division" "leftHeavyLefts" "I") (List.mem_of_getElem? (i := 1) rfl)
  have L_58 := hts (.fieldLink RX0 58 "Phasehall$Division" "rightHeavyLefts" "I") (List.mem_of_getElem? (i := 2) rfl)
  have inX0 : ∀ w ∈ wsX00, w ∈ wsX0_leftPart := fun _ h => List.mem_cons_of_mem _ (List.mem_append_right _ h)
  have hl : lv_has ls 2 [(0, .ref q), (1, .int (nI i))] := hl
  refine lv_aload_n hx hb dX0_leftPart_0 rfl (lv_at hl 0 rfl) ?_
  refine va_get (D := D) (ci := 0) (v := .int (nI (mk f))) (C := RX0) (T := TX0) (N := 5) hx hb hts inX0 hown hK hP 0 rfl rfl 1 (by decide) L_27 (fun _ h9 => h9) rfl dX0_leftPart_1 ?_
  refine lv_aload_n hx hb dX0_leftPart_4 rfl (lv_at hl 0 rfl) ?_
  refine va_get (D := D) (ci := 0) (v := .int (nI (mk g))) (C := RX0) (T := TX0) (N := 5) hx hb hts inX0 hown hK hP 0 rfl rfl 3 (by decide) L_58 (fun _ h9 => h9) rfl dX0_leftPart_5 ?_
  refine lv_iload_n hx hb dX0_leftPart_8 rfl (lv_at hl 1 rfl) ?_
  refine j_calli (va_runS (As := [.int (nI (mk f)), .int (nI (mk g)), .int (nI i)]) (rest := []) C.fix (c_X0_partIn l D aI aJ aZ f g i (show i < 12 from by first | omega | assumption | rfl | (simp_all; done)) H.size) (va_cwS 3 hts gX0_leftPart_X0_partIn rfl rfl rfl (by decide +kernel) ⟨Nat.le_of_ble_eq_true rfl, Nat.le_of_ble_eq_true rfl⟩) (jPreS hN hK hP hD [] rfl rfl (by decide)) rfl rfl hl.1 rfl (lv_room (Nat.le_of_ble_eq_true rfl)) dX0_leftPart_9 ⟨Nat.zero_le _, Nat.zero_le _⟩) hA hP hD hS [] [0] (wr := [(q, .inr (0, [.ref r, .int (nI (mk f)), .int fr, .int (nI (mk g)), .int gr]))]) rfl rfl (by decide) (by decide) (fun r_9 u_9 H locs q_9 hP hD hS => ?_)
  obtain ⟨rfl, -⟩ := q_9
  have hP : va_P D vwCl [(q, .inr (0, [.ref r, .int (nI (mk f)), .int fr, .int (nI (mk g)), .int gr]))] H := hP
  have hD : va_D A [(q, .inr (0, [.ref r, .int (nI (mk f)), .int fr, .int (nI (mk g)), .int gr]))] := hD
  exact j_iret (w1 := fun u => w_X0_leftPart_o aI aJ aZ q r f g i fr gr u) (post := p_X0_leftPart f g i fr gr) C () hP hD hS ⟨rfl, trivial⟩ dX0_leftPart_12
abbrev w_X0_rightPart_o (aI aJ aZ : ClassId) (q r : Nat) (f : Nat → Bool) (g : Nat → Bool) (i : Nat) (fr : Int32) (gr : Int32) (uu0 : Unit) : va_W := [(q, .inr (0, [.ref r, .int fr, .int (nI (mk f)), .int gr, .int (nI (mk g))]))]
abbrev p_X0_rightPart (f : Nat → Bool) (g : Nat → Bool) (i : Nat) (fr : Int32) (gr : Int32) (rr0 : Int32) (uu0 : Unit) : Prop := rr0 = nI (if f i then 0 else if g i then 2 else 1) ∧ (True)
set_option maxHeartbeats 4000000 in
set_option maxRecDepth 100000 in
theorem c_X0_rightPart (l : Launch) (D : va_G) (aI aJ aZ : ClassId) (q r : Nat) (f : Nat → Bool) (g : Nat → Bool) (i : Nat) (fr : Int32) (gr : Int32) (hi1 : i < 12) (sz : Nat) : Met l yX0_rightPart wsX0_rightPart ({ frames := 2, cells := 0, slots := 0, locals := 43 }) (va_Pc [.ref q, .int (nI i)] (jI D (jT aI aJ aZ) [(q, .inr (0, [.ref r, .int fr, .int (nI (mk f)), .int gr, .int (nI (mk g))]))] sz)) (va_Qi (S := Unit) (p_X0_rightPart f g i fr gr) (fun u t => jO D (jT aI aJ aZ) (va_A [(q, .inr (0, [.ref r, .int fr, .int (nI (mk f)), .int gr, .int (nI (mk g))]))] sz) (w_X0_rightPart_o aI aJ aZ q r f g i fr gr u) t) (va_A [(q, .inr (0, [.ref r, .int fr, .int (nI (mk f)), .int gr, .int (nI (mk g))]))] sz)) 0 0 (va_A [(q, .inr (0, [.ref r, .int fr, .int (nI (mk f)), .int gr, .int (nI (mk g))]))] sz) := by
  refine j_of (Qc := fun A => va_Qi (S := Unit) (p_X0_rightPart f g i fr gr) (fun u t => jO D (jT aI aJ aZ) A (w_X0_rightPart_o aI aJ aZ q r f g i fr gr u) t) A) (own := RX0) (nm := "rightPart") (by decide +kernel) rfl rfl rfl (Nat.le_of_ble_eq_true rfl) ?_
  intro p e s m below meth c A ls H locs C hP hD hS hl
  obtain ⟨hx, hb, hml, hown, hts, hK, hA, hlocks, hr, hn, hN⟩ := id C
  have L_36 := hts (.fieldLink RX0 36 "Phasehall$Division" "rightHeavyRights" "I") (List.mem_of_getElem? (i := 2) rfl)
  have L_46 := hts (.fieldLink RX0 46 "Phasehall$Division" "leftHeavyRights" "I") (List.mem_of_getElem? (i := 1) rfl)
  have inX0 : ∀ w ∈ wsX00, w ∈ wsX0_rightPart := fun _ h => List.mem_cons_of_mem _ (List.mem_append_right _ h)
  have hl : lv_has ls 2 [(0, .ref q), (1, .int (nI i))] := hl
  refine lv_aload_n hx hb dX0_rightPart_0 rfl (lv_at hl 0 rfl) ?_
  refine va_get (D := D) (ci := 0) (v := .int (nI (mk f))) (C := RX0) (T := TX0) (N := 5) hx hb hts inX0 hown hK hP 0 rfl rfl 2 (by decide) L_46 (fun _ h9 => h9) rfl dX0_rightPart_1 ?_
  refine lv_aload_n hx hb dX0_rightPart_4 rfl (lv_at hl 0 rfl) ?_
  refine va_get (D := D) (ci := 0) (v := .int (nI (mk g))) (C := RX0) (T := TX0) (N := 5) hx hb hts inX0 hown hK hP 0 rfl rfl 4 (by decide) L_36 (fun _ h9 => h9) rfl dX0_rightPart_5 ?_
  refine lv_iload_n hx hb dX0_rightPart_8 rfl (lv_at hl 1 rfl) ?_
  refine j_calli (va_runS (As := [.int (nI (mk f)), .int (nI (mk g)), .int (nI i)]) (rest := []) C.fix (c_X0_partIn l D aI aJ aZ f g i (show i < 12 from by first | omega | assumption | rfl | (simp_all; done)) H.size) (va_cwS 3 hts gX0_rightPart_X0_partIn rfl rfl rfl (by decide +kernel) ⟨Nat.le_of_ble_eq_true rfl, Nat.le_of_ble_eq_true rfl⟩) (jPreS hN hK hP hD [] rfl rfl (by decide)) rfl rfl hl.1 rfl (lv_room (Nat.le_of_ble_eq_true rfl)) dX0_rightPart_9 ⟨Nat.zero_le _, Nat.zero_le _⟩) hA hP hD hS [] [0] (wr := [(q, .inr (0, [.ref r, .int fr, .int (nI (mk f)), .int gr, .int (nI (mk g))]))]) rfl rfl (by decide) (by decide) (fun r_9 u_9 H locs q_9 hP hD hS => ?_)
  obtain ⟨rfl, -⟩ := q_9
  have hP : va_P D vwCl [(q, .inr (0, [.ref r, .int fr, .int (nI (mk f)), .int gr, .int (nI (mk g))]))] H := hP
  have hD : va_D A [(q, .inr (0, [.ref r, .int fr, .int (nI (mk f)), .int gr, .int (nI (mk g))]))] := hD
  exact j_iret (w1 := fun u => w_X0_rightPart_o aI aJ aZ q r f g i fr gr u) (post := p_X0_rightPart f g i fr gr) C () hP hD hS ⟨rfl, trivial⟩ dX0_rightPart_12
abbrev w_X0_fineSet_o (aI aJ aZ : ClassId) (q r : Nat) (Rr : Nat → Nat → Bool) (x : Nat) (s1 : Int32) (s2 : Int32) (s3 : Int32) (s4 : Int32) (uu0 : Unit) : va_W := [(q, .inr (0, [.ref r, .int s1, .int s2, .int s3, .int s4])), (r, .inl (aI, 12, (.inl (fun kk => nI (mk (Rr kk))))))]
abbrev p_X0_fineSet (Rr : Nat → Nat → Bool) (x : Nat) (s1 : Int32) (s2 : Int32) (s3 : Int32) (s4 : Int32) (rr0 : Int32) (uu0 : Unit) : Prop := rr0 = nI (mk (fun z => Rr x z && Rr z x)) ∧ (True)
set_option maxHeartbeats 4000000 in
set_option maxRecDepth 100000 in
theorem c_X0_fineSet (l : Launch) (D : va_G) (aI aJ aZ : ClassId) (q r : Nat) (Rr : Nat → Nat → Bool) (x : Nat) (s1 : Int32) (s2 : Int32) (s3 : Int32) (s4 : Int32) (hx1 : x < 12) (sz : Nat) : Met l yX0_fineSet wsX0_fineSet ({ frames := 1, cells := 0, slots := 0, locals := 21 }) (va_Pc [.ref q, .int (nI x)] (jI D (jT aI aJ aZ) [(q, .inr (0, [.ref r, .int s1, .int s2, .int s3, .int s4])), (r, .inl (aI, 12, (.inl (fun kk => nI (mk (Rr kk))))))] sz)) (va_Qi (S := Unit) (p_X0_fineSet Rr x s1 s2 s3 s4) (fun u t => jO D (jT aI aJ aZ) (va_A [(q, .inr (0, [.ref r, .int s1, .int s2, .int s3, .int s4])), (r, .inl (aI, 12, (.inl (fun kk => nI (mk (Rr kk))))))] sz) (w_X0_fineSet_o aI aJ aZ q r Rr x s1 s2 s3 s4 u) t) (va_A [(q, .inr (0, [.ref r, .int s1, .int s2, .int s3, .int s4])), (r, .inl (aI, 12, (.inl (fun kk => nI (mk (Rr kk))))))] sz)) 0 0 (va_A [(q, .inr (0, [.ref r, .int s1, .int s2, .int s3, .int s4])), (r, .inl (aI, 12, (.inl (fun kk => nI (mk (Rr kk))))))] sz) := by
  refine j_of (Qc := fun A => va_Qi (S := Unit) (p_X0_fineSet Rr x s1 s2 s3 s4) (fun u t => jO D (jT aI aJ aZ) A (w_X0_fineSet_o aI aJ aZ q r Rr x s1 s2 s3 s4 u) t) A) (own := RX0) (nm := "fineSet") (by decide +kernel) rfl rfl rfl (Nat.le_of_ble_eq_true rfl) ?_
  intro p e s m below meth c A ls H locs C hP hD hS hl
  obtain ⟨hx, hb, hml, hown, hts, hK, hA, hlocks, hr, hn, hN⟩ := id C
  have L_9 := hts (.fieldLink RX0 9 "Phasehall$Division" "reached" "[I") (List.mem_of_getElem? (i := 1) rfl)
  have inX0 : ∀ w ∈ wsX00, w ∈ wsX0_fineSet := fun _ h => List.mem_cons_of_mem _ (List.mem_append_right _ h)
  have key : ∀ N : Nat, (∀ (i : Nat) (H : Heap) (locs : List Loc) (ls : Array Slot), (13 - i) < N → (i ≤ 12) → va_P D vwCl [(q, .inr (0, [.ref r, .int s1, .int s2, .int s3, .int s4])), (r, .inl (aI, 12, (.inl (fun kk => nI (mk (Rr kk))))))] H → va_D A [(q, .inr (0, [.ref r, .int s1, .int s2, .int s3, .int s4])), (r, .inl (aI, 12, (.inl (fun kk => nI (mk (Rr kk))))))] → va_S A s.heap H locs → lv_has ls 4 [(0, .ref q), (1, .int (nI x)), (2, .int (nI (mk (fun z => decide (z < i) && (Rr x z && Rr z x))))), (3, .int (nI i))] → W p l e ({ frames := 1, cells := 0, slots := 0, locals := 21 }) s m ([.ref q, .int (nI x)] : List Value).toArray below meth c H locs 0 0 (MQ below (va_Qi (S := Unit) (p_X0_fineSet Rr x s1 s2 s3 s4) (fun u t => jO D (jT aI aJ aZ) A (w_X0_fineSet_o aI aJ aZ q r Rr x s1 s2 s3 s4 u) t) A) ([.ref q, .int (nI x)] : List Value).toArray s 0 0 A) (F0 m 4 ls [])) := by
    intro N
    induction N with
    | zero => exact fun _ _ _ _ h => absurd h (Nat.not_lt_zero _)
    | succ N ih =>
      have ih4 := ih
      intro i H locs ls hmeas hi hP hD hS hl
      refine lv_iload_n hx hb dX0_fineSet_4 rfl (lv_at hl 3 rfl) ?_
      refine lv_bipush (v := nI 12) hx hb dX0_fineSet_5 (by decide) ?_
      refine lv_icmp_ge (tgt := 48) hx hb dX0_fineSet_7 (by decide) (fun c_7 => ?_) (fun c_7 => ?_)
      · rw [cv_le (by omega) (by omega)] at c_7
        refine lv_iload_n hx hb dX0_fineSet_48 rfl (lv_at hl 2 rfl) ?_
        have eV : nI (mk (fun z => decide (z < i) && (Rr x z && Rr z x))) = nI (mk (fun z => Rr x z && Rr z x)) := by exact congrArg nI (mk_congr (fun z hz => by rw [show decide (z < i) = true by simp; omega, Bool.true_and]))
        exact j_iret (w1 := fun u => w_X0_fineSet_o aI aJ aZ q r Rr x s1 s2 s3 s4 u) (post := p_X0_fineSet Rr x s1 s2 s3 s4) C () hP hD hS ⟨eV, trivial⟩ dX0_fineSet_49
      · rw [cv_le (by omega) (by omega)] at c_7
        refine lv_aload_n hx hb dX0_fineSet_10 rfl (lv_at hl 0 rfl) ?_
        refine va_get (D := D) (ci := 0) (v := .ref r) (C := RX0) (T := TX0) (N := 5) hx hb hts inX0 hown hK hP 0 rfl rfl 0 (by decide) L_9 (fun _ h9 => h9) rfl dX0_fineSet_11 ?_
        refine lv_iload_n hx hb dX0_fineSet_14 rfl (lv_at hl 1 rfl) ?_
        refine j_iald (v := nI (mk (Rr x))) hx hb hK hP 1 0 rfl rfl (by omega) (by omega) (rfl) dX0_fineSet_15 ?_
        refine lv_iload_n hx hb dX0_fineSet_16 rfl (lv_at hl 3 rfl) ?_
        refine j_calli (va_runSN (As := [.int (nI (mk (Rr x))), .int (nI i)]) (rest := []) C.fix (c_X6_holds l D aI aJ aZ (mk (Rr x)) i (show (mk (Rr x)) < 2 ^ 31 from by exact Nat.lt_trans (mk_lt _) (by decide)) (show i < 31 from by first | omega | assumption | rfl | (simp_all; done)) H.size) ⟨(va_cnB 2 hts gX0_fineSet_X6_holds_n68 rfl rfl rfl (hN (RX0, 68, yX6_holds) (by decide +kernel)) (hts (.initialized RX6) (List.mem_of_getElem? (i := 3) rfl)) (by decide +kernel) ⟨Nat.le_of_ble_eq_true rfl, Nat.le_of_ble_eq_true rfl⟩), (hts (.static yX6_holds) (List.mem_of_getElem? (i := 2) rfl)), trivial⟩ (jPreS hN hK hP hD [] rfl rfl (by decide)) rfl rfl hl.1 rfl (lv_room (Nat.le_of_ble_eq_true rfl)) dX0_fineSet_17 ⟨Nat.zero_le _, Nat.zero_le _⟩) hA hP hD hS [] [0, 1] (wr := [(q, .inr (0, [.ref r, .int s1, .int s2, .int s3, .int s4])), (r, .inl (aI, 12, (.inl (fun kk => nI (mk (Rr kk))))))]) rfl rfl (by decide) (by decide) (fun r_17 u_17 H locs q_17 hP hD hS => ?_)
        obtain ⟨rfl, -⟩ := q_17
        have hP : va_P D vwCl [(q, .inr (0, [.ref r, .int s1, .int s2, .int s3, .int s4])), (r, .inl (aI, 12, (.inl (fun kk => nI (mk (Rr kk))))))] H := hP
        have hD : va_D A [(q, .inr (0, [.ref r, .int s1, .int s2, .int s3, .int s4])), (r, .inl (aI, 12, (.inl (fun kk => nI (mk (Rr kk))))))] := hD
        refine j_topi (y := (bI (Rr x i))) (by rw [mk_tb' _ (by omega)]) ?_
        refine lv_if_eq (tgt := 42) hx hb dX0_fineSet_20 (by decide) (fun c_20 => ?_) (fun c_20 => ?_)
        · rw [cv_b0] at c_20
          refine lv_iinc (v := nI (i + 1)) (lv' := [(3, .int (nI (i + 1))), (0, .ref q), (1, .int (nI x)), (2, .int (nI (mk (fun z => decide (z < i) && (Rr x z && Rr z x)))))]) hx hb dX0_fineSet_42 hl (k := 3) rfl (inc_nI i 1) (by decide) rfl (fun ls hl => ?_)
          refine lv_goto (tgt := 4) hx hb dX0_fineSet_45 (by decide) ?_
          have hl := lv_sub (l' := [(0, .ref q), (1, .int (nI x)), (2, .int (nI (mk (fun z => decide (z < i) && (Rr x z && Rr z x))))), (3, .int (nI (i + 1)))]) hl [1, 2, 3, 0] rfl
          have hl := lv_re hl 2 rfl (show (.int (nI (mk (fun z => decide (z < i) && (Rr x z && Rr z x)))) : Value) = .int (nI (mk (fun z => decide (z < (i + 1)) && (Rr x z && Rr z x)))) from congrArg _ (by exact congrArg nI (mk_congr (fun z hz => bset_skip (b := fun z => Rr x z && Rr z x) (by simp [c_20])))))
          have hl : lv_has ls 4 [(0, .ref q), (1, .int (nI x)), (2, .int (nI (mk (fun z => decide (z < (i + 1)) && (Rr x z && Rr z x))))), (3, .int (nI (i + 1)))] := hl
          exact ih4 (i + 1) _ _ _ (by omega) (show (i + 1) ≤ 12 from by first | omega | assumption | rfl | (simp_all; done)) hP hD hS hl
        · rw [cv_b0] at c_20
          rw [cv_nb] at c_20
          refine lv_aload_n hx hb dX0_fineSet_23 rfl (lv_at hl 0 rfl) ?_
          refine va_get (D := D) (ci := 0) (v := .ref r) (C := RX0) (T := TX0) (N := 5) hx hb hts inX0 hown hK hP 0 rfl rfl 0 (by decide) L_9 (fun _ h9 => h9) rfl dX0_fineSet_24 ?_
          refine lv_iload_n hx hb dX0_fineSet_27 rfl (lv_at hl 3 rfl) ?_
          refine j_iald (v := nI (mk (Rr i))) hx hb hK hP 1 0 rfl rfl (by omega) (by omega) (rfl) dX0_fineSet_28 ?_
          refine lv_iload_n hx hb dX0_fineSet_29 rfl (lv_at hl 1 rfl) ?_
          refine j_calli (va_runSN (As := [.int (nI (mk (Rr i))), .int (nI x)]) (rest := []) C.fix (c_X6_holds l D aI aJ aZ (mk (Rr i)) x (show (mk (Rr i)) < 2 ^ 31 from by exact Nat.lt_trans (mk_lt _) (by decide)) (show x < 31 from by first | omega | assumption | rfl | (simp_all; done)) H.size) ⟨(va_cnB 2 hts gX0_fineSet_X6_holds_n68 rfl rfl rfl (hN (RX0, 68, yX6_holds) (by decide +kernel)) (hts (.initialized RX6) (List.mem_of_getElem? (i := 3) rfl)) (by decide +kernel) ⟨Nat.le_of_ble_eq_true rfl, Nat.le_of_ble_eq_true rfl⟩), (hts (.static yX6_holds) (List.mem_of_getElem? (i := 2) rfl)), trivial⟩ (jPreS hN hK hP hD [] rfl rfl (by decide)) rfl rfl hl.1 rfl (lv_room (Nat.le_of_ble_eq_true rfl)) dX0_fineSet_30 ⟨Nat.zero_le _, Nat.zero_le _⟩) hA hP hD hS [] [0, 1] (wr := [(q, .inr (0, [.ref r, .int s1, .int s2, .int s3, .int s4])), (r, .inl (aI, 12, (.inl (fun kk => nI (mk (Rr kk))))))]) rfl rfl (by decide) (by decide) (fun r_30 u_30 H locs q_30 hP hD hS => ?_)
          obtain ⟨rfl, -⟩ := q_30
          have hP : va_P D vwCl [(q, .inr (0, [.ref r, .int s1, .int s2, .int s3, .int s4])), (r, .inl (aI, 12, (.inl (fun kk => nI (mk (Rr kk))))))] H := hP
          have hD : va_D A [(q, .inr (0, [.ref r, .int s1, .int s2, .int s3, .int s4])), (r, .inl (aI, 12, (.inl (fun kk => nI (mk (Rr kk))))))] := hD
          refine j_topi (y := (bI (Rr i x))) (by rw [mk_tb' _ (by omega)]) ?_
          refine lv_if_eq (tgt := 42) hx hb dX0_fineSet_33 (by decide) (fun c_33 => ?_) (fun c_33 => ?_)
          · rw [cv_b0] at c_33
            refine lv_iinc (v := nI (i + 1)) (lv' := [(3, .int (nI (i + 1))), (0, .ref q), (1, .int (nI x)), (2, .int (nI (mk (fun z => decide (z < i) && (Rr x z && Rr z x)))))]) hx hb dX0_fineSet_42 hl (k := 3) rfl (inc_nI i 1) (by decide) rfl (fun ls hl => ?_)
            refine lv_goto (tgt := 4) hx hb dX0_fineSet_45 (by decide) ?_
            have hl := lv_sub (l' := [(0, .ref q), (1, .int (nI x)), (2, .int (nI (mk (fun z => decide (z < i) && (Rr x z && Rr z x))))), (3, .int (nI (i + 1)))]) hl [1, 2, 3, 0] rfl
            have hl := lv_re hl 2 rfl (show (.int (nI (mk (fun z => decide (z < i) && (Rr x z && Rr z x)))) : Value) = .int (nI (mk (fun z => decide (z < (i + 1)) && (Rr x z && Rr z x)))) from congrArg _ (by exact congrArg nI (mk_congr (fun z hz => bset_skip (b := fun z => Rr x z && Rr z x) (by simp [c_20, c_33])))))
            have hl : lv_has ls 4 [(0, .ref q), (1, .int (nI x)), (2, .int (nI (mk (fun z => decide (z < (i + 1)) && (Rr x z && Rr z x))))), (3, .int (nI (i + 1)))] := hl
            exact ih4 (i + 1) _ _ _ (by omega) (show (i + 1) ≤ 12 from by first | omega | assumption | rfl | (simp_all; done)) hP hD hS hl
          · rw [cv_b0] at c_33
            rw [cv_nb] at c_33
            refine lv_iload_n hx hb dX0_fineSet_36 rfl (lv_at hl 2 rfl) ?_
            refine lv_iconst (v := nI 1) hx hb dX0_fineSet_37 (by decide) ?_
            refine lv_iload_n hx hb dX0_fineSet_38 rfl (lv_at hl 3 rfl) ?_
            refine lv_ishl hx hb dX0_fineSet_39 ?_
            refine j_topi (y := (nI (2 ^ i))) (one_shl (by omega)) ?_
            refine lv_ior hx hb dX0_fineSet_40 ?_
            refine j_topi (y := (nI (mk (fun z => (decide (z < i) && (Rr x z && Rr z x)) || decide (z = i))))) (by rw [fa_or, mk_or_bit _ (by omega)]) ?_
            refine lv_istore_n (lv' := [(2, .int (nI (mk (fun z => (decide (z < i) && (Rr x z && Rr z x)) || decide (z = i))))), (0, .ref q), (1, .int (nI x)), (3, .int (nI i))]) hx hb dX0_fineSet_41 rfl hl (by decide) rfl (fun ls hl => ?_)
            refine lv_iinc (v := nI (i + 1)) (lv' := [(3, .int (nI (i + 1))), (2, .int (nI (mk (fun z => (decide (z < i) && (Rr x z && Rr z x)) || decide (z = i))))), (0, .ref q), (1, .int (nI x))]) hx hb dX0_fineSet_42 hl (k := 3) rfl (inc_nI i 1) (by decide) rfl (fun ls hl => ?_)
            refine lv_goto (tgt := 4) hx hb dX0_fineSet_45 (by decide) ?_
            have hl := lv_sub (l' := [(0, .ref q), (1, .int (nI x)), (2, .int (nI (mk (fun z => (decide (z < i) && (Rr x z && Rr z x)) || decide (z = i))))), (3, .int (nI (i + 1)))]) hl [2, 3, 1, 0] rfl
            have hl := lv_re hl 2 rfl (show (.int (nI (mk (fun z => (decide (z < i) && (Rr x z && Rr z x)) || decide (z = i)))) : Value) = .int (nI (mk (fun z => decide (z < (i + 1)) && (Rr x z && Rr z x)))) from congrArg _ (by exact congrArg nI (mk_congr (fun z hz => bset_put (b := fun z => Rr x z && Rr z x) (by simp [c_20, c_33])))))
            have hl : lv_has ls 4 [(0, .ref q), (1, .int (nI x)), (2, .int (nI (mk (fun z => decide (z < (i + 1)) && (Rr x z && Rr z x))))), (3, .int (nI (i + 1)))] := hl
            exact ih4 (i + 1) _ _ _ (by omega) (show (i + 1) ≤ 12 from by first | omega | assumption | rfl | (simp_all; done)) hP hD hS hl
  have hl : lv_has ls 4 [(0, .ref q), (1, .int (nI x))] := hl
  refine lv_iconst (v := nI 0) hx hb dX0_fineSet_0 (by decide) ?_
  refine lv_istore_n (lv' := [(2, .int (nI 0)), (0, .ref q), (1, .int (nI x))]) hx hb dX0_fineSet_1 rfl hl (by decide) rfl (fun ls hl => ?_)
  refine lv_iconst (v := nI 0) hx hb dX0_fineSet_2 (by decide) ?_
  refine lv_istore_n (lv' := [(3, .int (nI 0)), (2, .int (nI 0)), (0, .ref q), (1, .int (nI x))]) hx hb dX0_fineSet_3 rfl hl (by decide) rfl (fun ls hl => ?_)
  have hl := lv_sub (l' := [(0, .ref q), (1, .int (nI x)), (2, .int (nI 0)), (3, .int (nI 0))]) hl [2, 3, 1, 0] rfl
  have hl := lv_re hl 2 rfl (show (.int (nI 0) : Value) = .int (nI (mk (fun z => decide (z < 0) && (Rr x z && Rr z x)))) from congrArg _ (by exact (congrArg nI (mk_0 (fun _ _ => by simp))).symm))
  have hl : lv_has ls 4 [(0, .ref q), (1, .int (nI x)), (2, .int (nI (mk (fun z => decide (z < 0) && (Rr x z && Rr z x))))), (3, .int (nI 0))] := hl
  exact (key _) 0 _ _ _ (Nat.lt_succ_self _) (show 0 ≤ 12 from by first | omega | assumption | rfl | (simp_all; done)) hP hD hS hl
abbrev w_X0_isWithinFinePart_o (aI aJ aZ : ClassId) (q r : Nat) (Rr : Nat → Nat → Bool) (x : Nat) (o : Option Nat) (s1 : Int32) (s2 : Int32) (s3 : Int32) (s4 : Int32) (uu0 : Unit) : va_W := [(q, .inr (0, [.ref r, .int s1, .int s2, .int s3, .int s4])), (r, .inl (aI, 12, (.inl (fun kk => nI (mk (Rr kk))))))]
abbrev p_X0_isWithinFinePart (Rr : Nat → Nat → Bool) (x : Nat) (o : Option Nat) (s1 : Int32) (s2 : Int32) (s3 : Int32) (s4 : Int32) (rr0 : Int32) (uu0 : Unit) : Prop := rr0 = bI (wfp Rr x o) ∧ (True)
set_option maxHeartbeats 4000000 in
set_option maxRecDepth 100000 in
theorem c_X0_isWithinFinePart (l : Launch) (D : va_G) (aI aJ aZ : ClassId) (q r : Nat) (Rr : Nat → Nat → Bool) (x : Nat) (o : Option Nat) (s1 : Int32) (s2 : Int32) (s3 : Int32) (s4 : Int32) (hx1 : x < 12) (ho : ∀ v, o = some v → v < 12) (sz : Nat) : Met l yX0_isWithinFinePart wsX0_isWithinFinePart ({ frames := 2, cells := 0, slots := 0, locals := 44 }) (va_Pc [.ref q, .int (nI x), .int (oI o)] (jI D (jT aI aJ aZ) [(q, .inr (0, [.ref r, .int s1, .int s2, .int s3, .int s4])), (r, .inl (aI, 12, (.inl (fun kk => nI (mk (Rr kk))))))] sz)) (va_Qi (S := Unit) (p_X0_isWithinFinePart Rr x o s1 s2 s3 s4) (fun u t => jO D (jT aI aJ aZ) (va_A [(q, .inr (0, [.ref r, .int s1, .int s2, .int s3, .int s4])), (r, .inl (aI, 12, (.inl (fun kk => nI (mk (Rr kk))))))] sz) (w_X0_isWithinFinePart_o aI aJ aZ q r Rr x o s1 s2 s3 s4 u) t) (va_A [(q, .inr (0, [.ref r, .int s1, .int s2, .int s3, .int s4])), (r, .inl (aI, 12, (.inl (fun kk => nI (mk (Rr kk))))))] sz)) 0 0 (va_A [(q, .inr (0, [.ref r, .int s1, .int s2, .int s3, .int s4])), (r, .inl (aI, 12, (.inl (fun kk => nI (mk (Rr kk))))))] sz) := by
  refine j_of (Qc := fun A => va_Qi (S := Unit) (p_X0_isWithinFinePart Rr x o s1 s2 s3 s4) (fun u t => jO D (jT aI aJ aZ) A (w_X0_isWithinFinePart_o aI aJ aZ q r Rr x o s1 s2 s3 s4 u) t) A) (own := RX0) (nm := "isWithinFinePart") (by decide +kernel) rfl rfl rfl (Nat.le_of_ble_eq_true rfl) ?_
  intro p e s m below meth c A ls H locs C hP hD hS hl
  obtain ⟨hx, hb, hml, hown, hts, hK, hA, hlocks, hr, hn, hN⟩ := id C
  have hl : lv_has ls 3 [(0, .ref q), (1, .int (nI x)), (2, .int (oI o))] := hl
  refine lv_iload_n hx hb dX0_isWithinFinePart_0 rfl (lv_at hl 2 rfl) ?_
  refine lv_iconst (v := oI none) hx hb dX0_isWithinFinePart_1 (by decide) ?_
  refine lv_icmp_eq (tgt := 21) hx hb dX0_isWithinFinePart_2 (by decide) (fun c_2 => ?_) (fun c_2 => ?_)
  · rw [show oI none = (-1 : Int32) from rfl, cv_oN (fun v hv => Nat.lt_trans (ho v hv) (by decide))] at c_2
    rw [c_2] at hl
    have hl : lv_has ls 3 [(0, .ref q), (1, .int (nI x)), (2, .int (oI none))] := hl
    refine lv_iconst (v := nI 0) hx hb dX0_isWithinFinePart_21 (by decide) ?_
    have eV : nI 0 = bI (wfp Rr x o) := by rw [c_2]; rfl
    exact j_zret (w1 := fun u => w_X0_isWithinFinePart_o aI aJ aZ q r Rr x o s1 s2 s3 s4 u) (post := p_X0_isWithinFinePart Rr x o s1 s2 s3 s4) C () (wfp Rr x o) eV hP hD hS ⟨rfl, trivial⟩ dX0_isWithinFinePart_22
  · rw [show oI none = (-1 : Int32) from rfl, cv_oN (fun v hv => Nat.lt_trans (ho v hv) (by decide))] at c_2
    obtain ⟨v1, hv1⟩ := some_of c_2
    rw [hv1] at hl
    have hl : lv_has ls 3 [(0, .ref q), (1, .int (nI x)), (2, .int (nI v1))] := hl
    refine lv_aload_n hx hb dX0_isWithinFinePart_5 rfl (lv_at hl 0 rfl) ?_
    refine lv_iload_n hx hb dX0_isWithinFinePart_6 rfl (lv_at hl 1 rfl) ?_
    refine j_calli (va_runV (As := [.int (nI x)]) (rest := []) C.fix (c_X0_fineSet l D aI aJ aZ q r Rr x s1 s2 s3 s4 (show x < 12 from by first | omega | assumption | rfl | (simp_all; done)) H.size) (cwV 1 hts gX0_isWithinFinePart_X0_fineSet rfl rfl rfl (by decide +kernel) ⟨Nat.le_of_ble_eq_true rfl, Nat.le_of_ble_eq_true rfl⟩) (jPreV hN hK hP hD [0, 1] rfl rfl (by decide) (ci := 0) (q0 := 0) rfl rfl) rfl rfl hl.1 rfl (lv_room (Nat.le_of_ble_eq_true rfl)) dX0_isWithinFinePart_7 ⟨Nat.zero_le _, Nat.zero_le _⟩) hA hP hD hS [0, 1] [] (wr := []) rfl rfl (by decide) (by decide) (fun r_7 u_7 H locs q_7 hP hD hS => ?_)
    obtain ⟨rfl, -⟩ := q_7
    have hP : va_P D vwCl [(q, .inr (0, [.ref r, .int s1, .int s2, .int s3, .int s4])), (r, .inl (aI, 12, (.inl (fun kk => nI (mk (Rr kk))))))] H := hP
    have hD : va_D A [(q, .inr (0, [.ref r, .int s1, .int s2, .int s3, .int s4])), (r, .inl (aI, 12, (.inl (fun kk => nI (mk (Rr kk))))))] := hD
    refine lv_iload_n hx hb dX0_isWithinFinePart_10 rfl (lv_at hl 2 rfl) ?_
    refine j_calli (va_runSN (As := [.int (nI (mk (fun z => Rr x z && Rr z x))), .int (nI v1)]) (rest := []) C.fix (c_X6_holds l D aI aJ aZ (mk (fun z => Rr x z && Rr z x)) v1 (show (mk (fun z => Rr x z && Rr z x)) < 2 ^ 31 from by exact Nat.lt_trans (mk_lt _) (by decide)) (show v1 < 31 from by have := ho _ hv1; omega) H.size) ⟨(va_cnB 2 hts gX0_isWithinFinePart_X6_holds_n68 rfl rfl rfl (hN (RX0, 68, yX6_holds) (by decide +kernel)) (hts (.initialized RX6) (List.mem_of_getElem? (i := 8) rfl)) (by decide +kernel) ⟨Nat.le_of_ble_eq_true rfl, Nat.le_of_ble_eq_true rfl⟩), (hts (.static yX6_holds) (List.mem_of_getElem? (i := 7) rfl)), trivial⟩ (jPreS hN hK hP hD [] rfl rfl (by decide)) rfl rfl hl.1 rfl (lv_room (Nat.le_of_ble_eq_true rfl)) dX0_isWithinFinePart_11 ⟨Nat.zero_le _, Nat.zero_le _⟩) hA hP hD hS [] [0, 1] (wr := [(q, .inr (0, [.ref r, .int s1, .int s2, .int s3, .int s4])), (r, .inl (aI, 12, (.inl (fun kk => nI (mk (Rr kk))))))]) rfl rfl (by decide) (by decide) (fun r_11 u_11 H locs q_11 hP hD hS => ?_)
    obtain ⟨rfl, -⟩ := q_11
    have hP : va_P D vwCl [(q, .inr (0, [.ref r, .int s1, .int s2, .int s3, .int s4])), (r, .inl (aI, 12, (.inl (fun kk => nI (mk (Rr kk))))))] H := hP
    have hD : va_D A [(q, .inr (0, [.ref r, .int s1, .int s2, .int s3, .int s4])), (r, .inl (aI, 12, (.inl (fun kk => nI (mk (Rr kk))))))] := hD
    refine j_topi (y := (bI (Rr x v1 && Rr v1 x))) (by rw [mk_tb' _ (ho _ hv1)]) ?_
    refine lv_if_eq (tgt := 21) hx hb dX0_isWithinFinePart_14 (by decide) (fun c_14 => ?_) (fun c_14 => ?_)
    · rw [cv_b0] at c_14
      refine lv_iconst (v := nI 0) hx hb dX0_isWithinFinePart_21 (by decide) ?_
      have eV : nI 0 = bI (wfp Rr x o) := by rw [hv1]; show nI 0 = bI (Rr x v1 && Rr v1 x); rw [c_14]; rfl
      exact j_zret (w1 := fun u => w_X0_isWithinFinePart_o aI aJ aZ q r Rr x o s1 s2 s3 s4 u) (post := p_X0_isWithinFinePart Rr x o s1 s2 s3 s4) C () (wfp Rr x o) eV hP hD hS ⟨rfl, trivial⟩ dX0_isWithinFinePart_22
    · rw [cv_b0] at c_14
      rw [cv_nb] at c_14
      refine lv_iconst (v := nI 1) hx hb dX0_isWithinFinePart_17 (by decide) ?_
      refine lv_goto (tgt := 22) hx hb dX0_isWithinFinePart_18 (by decide) ?_
      have eV : nI 1 = bI (wfp Rr x o) := by rw [hv1]; show nI 1 = bI (Rr x v1 && Rr v1 x); rw [c_14]; rfl
      exact j_zret (w1 := fun u => w_X0_isWithinFinePart_o aI aJ aZ q r Rr x o s1 s2 s3 s4 u) (post := p_X0_isWithinFinePart Rr x o s1 s2 s3 s4) C () (wfp Rr x o) eV hP hD hS ⟨rfl, trivial⟩ dX0_isWithinFinePart_22
abbrev w_J6_bitCount_0f7a4_o (aI aJ aZ : ClassId)  (a : Nat) (uu0 : Unit) : va_W := []
abbrev p_J6_bitCount_0f7a4 (a : Nat) (rr0 : Int32) (uu0 : Unit) : Prop := rr0 = nI (cnt 12 (fun z => a.testBit z)) ∧ (True)
set_option maxHeartbeats 4000000 in
set_option maxRecDepth 100000 in
theorem c_J6_bitCount_0f7a4 (l : Launch) (D : va_G) (aI aJ aZ : ClassId)  (a : Nat) (ha : a < 4096) (sz : Nat) : Met l yJ6_bitCount_0f7a4 wsJ6_bitCount_0f7a4 ({ frames := 0, cells := 0, slots := 0, locals := 0 }) (va_Pc [.int (nI a)] (jI D (jT aI aJ aZ) [] sz)) (va_Qi (S := Unit) (p_J6_bitCount_0f7a4 a) (fun u t => jO D (jT aI aJ aZ) (va_A [] sz) (w_J6_bitCount_0f7a4_o aI aJ aZ a u) t) (va_A [] sz)) 0 0 (va_A [] sz) := by
  refine j_of (Qc := fun A => va_Qi (S := Unit) (p_J6_bitCount_0f7a4 a) (fun u t => jO D (jT aI aJ aZ) A (w_J6_bitCount_0f7a4_o aI aJ aZ a u) t) A) (own := RJ6) (nm := "bitCount") (by decide +kernel) rfl rfl rfl (Nat.le_of_ble_eq_true rfl) ?_
  intro p e s m below meth c A ls H locs C hP hD hS hl
  obtain ⟨hx, hb, hml, hown, hts, hK, hA, hlocks, hr, hn, hN⟩ := id C
  have L_265 := hts (.constant RJ6 265 (1431655765)) (List.mem_of_getElem? (i := 1) rfl)
  have L_266 := hts (.constant RJ6 266 (858993459)) (List.mem_of_getElem? (i := 2) rfl)
  have L_267 := hts (.constant RJ6 267 (252645135)) (List.mem_of_getElem? (i := 3) rfl)
  have hl : lv_has ls 1 [(0, .int (nI a))] := hl
  refine lv_iload_n hx hb dJ6_bitCount_0f7a4_0 rfl (lv_at hl 0 rfl) ?_
  refine lv_iload_n hx hb dJ6_bitCount_0f7a4_1 rfl (lv_at hl 0 rfl) ?_
  refine lv_iconst (v := nI 1) hx hb dJ6_bitCount_0f7a4_2 (by decide) ?_
  refine lv_iushr (v := nI (a >>> 1)) hx hb dJ6_bitCount_0f7a4_3 (nI_ushr (by omega) (by decide)) ?_
  refine lv_ldcw (v := 1431655765) hx hb hown L_265 dJ6_bitCount_0f7a4_4 ?_
  refine j_topi (y := nI 1431655765) (by decide) ?_
  refine lv_iand hx hb dJ6_bitCount_0f7a4_7 ?_
  refine j_topi (y := (nI ((a >>> 1) &&& 1431655765))) (fa_and _ _) ?_
  refine lv_isub hx hb dJ6_bitCount_0f7a4_8 ?_
  refine j_topi (y := (nI (a - ((a >>> 1) &&& 1431655765)))) (pk_sub (Nat.le_trans Nat.and_le_left (shr_le _ _))) ?_
  refine lv_istore_n (lv' := [(0, .int (nI (a - ((a >>> 1) &&& 1431655765))))]) hx hb dJ6_bitCount_0f7a4_9 rfl hl (by decide) rfl (fun ls hl => ?_)
  obtain ⟨v1, hv1⟩ : ∃ v1, v1 = a - ((a >>> 1) &&& 1431655765) := ⟨_, rfl⟩
  have b1 : v1 < 4096 := by omega
  rw [← hv1] at hl
  have hl : lv_has ls 1 [(0, .int (nI v1))] := hl
  refine lv_iload_n hx hb dJ6_bitCount_0f7a4_10 rfl (lv_at hl 0 rfl) ?_
  refine lv_ldcw (v := 858993459) hx hb hown L_266 dJ6_bitCount_0f7a4_11 ?_
  refine j_topi (y := nI 858993459) (by decide) ?_
  refine lv_iand hx hb dJ6_bitCount_0f7a4_14 ?_
  refine j_topi (y := (nI (v1 &&& 858993459))) (fa_and _ _) ?_
  refine lv_iload_n hx hb dJ6_bitCount_0f7a4_15 rfl (lv_at hl 0 rfl) ?_
  refine lv_iconst (v := nI 2) hx hb dJ6_bitCount_0f7a4_16 (by decide) ?_
  refine lv_iushr (v := nI (v1 >>> 2)) hx hb dJ6_bitCount_0f7a4_17 (nI_ushr (by omega) (by decide)) ?_
  refine lv_ldcw (v := 858993459) hx hb hown L_266 dJ6_bitCount_0f7a4_18 ?_
  refine j_topi (y := nI 858993459) (by decide) ?_
  refine lv_iand hx hb dJ6_bitCount_0f7a4_21 ?_
  refine j_topi (y := (nI ((v1 >>> 2) &&& 858993459))) (fa_and _ _) ?_
  refine lv_iadd hx hb dJ6_bitCount_0f7a4_22 ?_
  refine j_topi (y := (nI ((v1 &&& 858993459) + ((v1 >>> 2) &&& 858993459)))) (nI_add _ _) ?_
  refine lv_istore_n (lv' := [(0, .int (nI ((v1 &&& 858993459) + ((v1 >>> 2) &&& 858993459))))]) hx hb dJ6_bitCount_0f7a4_23 rfl hl (by decide) rfl (fun ls hl => ?_)
  obtain ⟨v2, hv2⟩ : ∃ v2, v2 = (v1 &&& 858993459) + ((v1 >>> 2) &&& 858993459) := ⟨_, rfl⟩
  have b2 : v2 < 8192 := by have h1 : v1 &&& 858993459 ≤ v1 := Nat.and_le_left; have h2 : (v1 >>> 2) &&& 858993459 ≤ v1 := Nat.le_trans Nat.and_le_left (shr_le _ _); omega
  rw [← hv2] at hl
  have hl : lv_has ls 1 [(0, .int (nI v2))] := hl
  refine lv_iload_n hx hb dJ6_bitCount_0f7a4_24 rfl (lv_at hl 0 rfl) ?_
  refine lv_iload_n hx hb dJ6_bitCount_0f7a4_25 rfl (lv_at hl 0 rfl) ?_
  refine lv_iconst (v := nI 4) hx hb dJ6_bitCount_0f7a4_26 (by decide) ?_
  refine lv_iushr (v := nI (v2 >>> 4)) hx hb dJ6_bitCount_0f7a4_27 (nI_ushr (by omega) (by decide)) ?_
  refine lv_iadd hx hb dJ6_bitCount_0f7a4_28 ?_
  refine j_topi (y := (nI (v2 + (v2 >>> 4)))) (nI_add _ _) ?_
  refine lv_ldcw (v := 252645135) hx hb hown L_267 dJ6_bitCount_0f7a4_29 ?_
  refine j_topi (y := nI 252645135) (by decide) ?_
  refine lv_iand hx hb dJ6_bitCount_0f7a4_32 ?_
  refine j_topi (y := (nI ((v2 + (v2 >>> 4)) &&& 252645135))) (fa_and _ _) ?_
  refine lv_istore_n (lv' := [(0, .int (nI ((v2 + (v2 >>> 4)) &&& 252645135)))]) hx hb dJ6_bitCount_0f7a4_33 rfl hl (by decide) rfl (fun ls hl => ?_)
  obtain ⟨v3, hv3⟩ : ∃ v3, v3 = (v2 + (v2 >>> 4)) &&& 252645135 := ⟨_, rfl⟩
  have b3 : v3 < 252645136 := by rw [hv3]; exact and_le_lt (by decide)
  rw [← hv3] at hl
  have hl : lv_has ls 1 [(0, .int (nI v3))] := hl
  refine lv_iload_n hx hb dJ6_bitCount_0f7a4_34 rfl (lv_at hl 0 rfl) ?_
  refine lv_iload_n hx hb dJ6_bitCount_0f7a4_35 rfl (lv_at hl 0 rfl) ?_
  refine lv_bipush (v := nI 8) hx hb dJ6_bitCount_0f7a4_36 (by decide) ?_
  refine lv_iushr (v := nI (v3 >>> 8)) hx hb dJ6_bitCount_0f7a4_38 (nI_ushr (by omega) (by decide)) ?_
  refine lv_iadd hx hb dJ6_bitCount_0f7a4_39 ?_
  refine j_topi (y := (nI (v3 + (v3 >>> 8)))) (nI_add _ _) ?_
  refine lv_istore_n (lv' := [(0, .int (nI (v3 + (v3 >>> 8))))]) hx hb dJ6_bitCount_0f7a4_40 rfl hl (by decide) rfl (fun ls hl => ?_)
  obtain ⟨v4, hv4⟩ : ∃ v4, v4 = v3 + (v3 >>> 8) := ⟨_, rfl⟩
  have b4 : v4 < 505290272 := by have h2 := shr_le v3 8; omega
  rw [← hv4] at hl
  have hl : lv_has ls 1 [(0, .int (nI v4))] := hl
  refine lv_iload_n hx hb dJ6_bitCount_0f7a4_41 rfl (lv_at hl 0 rfl) ?_
  refine lv_iload_n hx hb dJ6_bitCount_0f7a4_42 rfl (lv_at hl 0 rfl) ?_
  refine lv_bipush (v := nI 16) hx hb dJ6_bitCount_0f7a4_43 (by decide) ?_
  refine lv_iushr (v := nI (v4 >>> 16)) hx hb dJ6_bitCount_0f7a4_45 (nI_ushr (by omega) (by decide)) ?_
  refine lv_iadd hx hb dJ6_bitCount_0f7a4_46 ?_
  refine j_topi (y := (nI (v4 + (v4 >>> 16)))) (nI_add _ _) ?_
  refine lv_istore_n (lv' := [(0, .int (nI (v4 + (v4 >>> 16))))]) hx hb dJ6_bitCount_0f7a4_47 rfl hl (by decide) rfl (fun ls hl => ?_)
  obtain ⟨v5, hv5⟩ : ∃ v5, v5 = v4 + (v4 >>> 16) := ⟨_, rfl⟩
  rw [← hv5] at hl
  have hl : lv_has ls 1 [(0, .int (nI v5))] := hl
  refine lv_iload_n hx hb dJ6_bitCount_0f7a4_48 rfl (lv_at hl 0 rfl) ?_
  refine lv_bipush (v := nI 63) hx hb dJ6_bitCount_0f7a4_49 (by decide) ?_
  refine lv_iand hx hb dJ6_bitCount_0f7a4_51 ?_
  refine j_topi (y := (nI (v5 &&& 63))) (fa_and _ _) ?_
  have eV : nI (v5 &&& 63) = nI (cnt 12 (fun z => a.testBit z)) := by rw [← popN_eq a ha, popN]; simp only [hv5, hv4, hv3, hv2, hv1]
  exact j_iret (w1 := fun u => w_J6_bitCount_0f7a4_o aI aJ aZ a u) (post := p_J6_bitCount_0f7a4 a) C () hP hD hS ⟨eV, trivial⟩ dJ6_bitCount_0f7a4_52
