abbrev w_X6_holds_o (aI aJ aZ : ClassId)  (a : Nat) (i : Nat) (u : Unit) : va_W := []
abbrev p_X6_holds (a : Nat) (i : Nat) (r : Int32) (u : Unit) : Prop := r = bI (a.testBit i) ∧ (True)
set_option maxHeartbeats 4000000 in
set_option maxRecDepth 100000 in
theorem c_X6_holds (l : Launch) (D : va_G) (aI aJ aZ : ClassId)  (a : Nat) (i : Nat) (ha : a < 2 ^ 31) (hi : i < 31) (sz : Nat) : Met l yX6_holds wsX6_holds ({ frames := 0, cells := 0, slots := 0, locals := 0 }) (va_Pc [.int (nI a), .int (nI i)] (jI D (jT aI aJ aZ) [] sz)) (va_Qi (S := Unit) (p_X6_holds a i) (fun u t => jO D (jT aI aJ aZ) (va_A [] sz) (w_X6_holds_o aI aJ aZ a i u) t) (va_A [] sz)) 0 0 (va_A [] sz) := by
  refine j_of (Qc := fun A => va_Qi (S := Unit) (p_X6_holds a i) (fun u t => jO D (jT aI aJ aZ) A (w_X6_holds_o aI aJ aZ a i u) t) A) (own := RX6) (nm := "holds") (by decide +kernel) rfl rfl rfl (by decide) ?_
  intro p e s m below meth c A ls C hP hD hS hl
  obtain ⟨hx, hb, hml, hown, hts, hK, hA, hlocks, hr, hn, hN⟩ := id C
  have hl : lv_has ls 2 [(0, .int (nI a)), (1, .int (nI i))] := hl
  refine lv_iload_n hx hb dX6_holds_0 rfl (lv_at hl 0 rfl) ?_
  refine lv_iload_n hx hb dX6_holds_1 rfl (lv_at hl 1 rfl) ?_
  refine lv_ishr hx hb dX6_holds_2 ?_
  refine j_topi (y := (nI (a >>> i))) (nI_shr (by omega) (by omega)) ?_
  refine lv_iconst (v := nI 1) hx hb dX6_holds_3 (by decide) ?_
  refine lv_iand hx hb dX6_holds_4 ?_
  refine j_topi (y := (nI ((a >>> i) &&& 1))) (fa_and _ _) ?_
  refine lv_if_eq (tgt := 12) hx hb dX6_holds_5 (by decide) (fun c_5 => ?_) (fun c_5 => ?_)
  · rw [cv_eq0 (and1_lt _), hold_bit] at c_5
    refine lv_iconst (v := nI 0) hx hb dX6_holds_12 (by decide) ?_
    have eV : nI 0 = bI (a.testBit i) := by rw [c_5]; rfl
    exact j_zret (w1 := fun u => w_X6_holds_o aI aJ aZ a i u) (post := p_X6_holds a i) C () (a.testBit i) eV hP hD hS ⟨rfl, trivial⟩ dX6_holds_13
  · rw [cv_eq0 (and1_lt _), hold_bit] at c_5
    refine lv_iconst (v := nI 1) hx hb dX6_holds_8 (by decide) ?_
    refine lv_goto (tgt := 13) hx hb dX6_holds_9 (by decide) ?_
    have eV : nI 1 = bI (a.testBit i) := by rw [Bool.not_eq_false] at c_5; rw [c_5]; rfl
    exact j_zret (w1 := fun u => w_X6_holds_o aI aJ aZ a i u) (post := p_X6_holds a i) C () (a.testBit i) eV hP hD hS ⟨rfl, trivial⟩ dX6_holds_13
abbrev w_X1_has_o (aI aJ aZ : ClassId) (q a b : Nat) (E : Nat → Nat → Bool) (nl : Nat) (nr : Nat) (ne : Nat) (x : Nat) (y : Nat) (u : Unit) : va_W := [(q, .inr (1, [.ref a, .ref b, .int (nI nl), .int (nI nr), .int (nI ne)])), (a, .inl (aI, 12, (.inl (fun kk => nI (mk (E kk))))))]
abbrev p_X1_has (E : Nat → Nat → Bool) (nl : Nat) (nr : Nat) (ne : Nat) (x : Nat) (y : Nat) (r : Int32) (u : Unit) : Prop := r = bI (E x y) ∧ (True)
set_option maxHeartbeats 4000000 in
set_option maxRecDepth 100000 in
theorem c_X1_has (l : Launch) (D : va_G) (aI aJ aZ : ClassId) (q a b : Nat) (E : Nat → Nat → Bool) (nl : Nat) (nr : Nat) (ne : Nat) (x : Nat) (y : Nat) (hx1 : x < 12) (hy1 : y < 12) (sz : Nat) : Met l yX1_has wsX1_has ({ frames := 1, cells := 0, slots := 0, locals := 21 }) (va_Pc [.ref q, .int (nI x), .int (nI y)] (jI D (jT aI aJ aZ) [(q, .inr (1, [.ref a, .ref b, .int (nI nl), .int (nI nr), .int (nI ne)])), (a, .inl (aI, 12, (.inl (fun kk => nI (mk (E kk))))))] sz)) (va_Qi (S := Unit) (p_X1_has E nl nr ne x y) (fun u t => jO D (jT aI aJ aZ) (va_A [(q, .inr (1, [.ref a, .ref b, .int (nI nl), .int (nI nr), .int (nI ne)])), (a, .inl (aI, 12, (.inl (fun kk => nI (mk (E kk))))))] sz) (w_X1_has_o aI aJ aZ q a b E nl nr ne x y u) t) (va_A [(q, .inr (1, [.ref a, .ref b, .int (nI nl), .int (nI nr), .int (nI ne)])), (a, .inl (aI, 12, (.inl (fun kk => nI (mk (E kk))))))] sz)) 0 0 (va_A [(q, .inr (1, [.ref a, .ref b, .int (nI nl), .int (nI nr), .int (nI ne)])), (a, .inl (aI, 12, (.inl (fun kk => nI (mk (E kk))))))] sz) := by
  refine j_of (Qc := fun A => va_Qi (S := Unit) (p_X1_has E nl nr ne x y) (fun u t => jO D (jT aI aJ aZ) A (w_X1_has_o aI aJ aZ q a b E nl nr ne x y u) t) A) (own := RX1) (nm := "has") (by decide +kernel) rfl rfl rfl (by decide) ?_
  intro p e s m below meth c A ls C hP hD hS hl
  obtain ⟨hx, hb, hml, hown, hts, hK, hA, hlocks, hr, hn, hN⟩ := id C
  have L_9 := hts (.fieldLink RX1 9 "Phasehall$Graph" "rightsOf" "[I") (List.mem_of_getElem? (i := 1) rfl)
  have inX1 : ∀ w ∈ wsX10, w ∈ wsX1_has := fun _ h => List.mem_cons_of_mem _ (List.mem_append_right _ h)
  have hl : lv_has ls 3 [(0, .ref q), (1, .int (nI x)), (2, .int (nI y))] := hl
  refine lv_aload_n hx hb dX1_has_0 rfl (lv_at hl 0 rfl) ?_
  refine va_get (D := D) (ci := 1) (v := .ref a) (C := RX1) (T := TX1) (N := 5) hx hb hts inX1 hown hK hP 0 rfl rfl 0 (by decide) L_9 (fun _ h9 => h9) rfl dX1_has_1 ?_
  refine lv_iload_n hx hb dX1_has_4 rfl (lv_at hl 1 rfl) ?_
  refine j_iald (v := nI (mk (E x))) hx hb hK hP 1 0 rfl rfl (by omega) (by decide) (rfl) dX1_has_5 ?_
  refine lv_iload_n hx hb dX1_has_6 rfl (lv_at hl 2 rfl) ?_
  refine j_calli (va_runSN (As := [.int (nI (mk (E x))), .int (nI y)]) (rest := []) C.fix (c_X6_holds l D aI aJ aZ (mk (E x)) y (show (mk (E x)) < 2 ^ 31 from by exact Nat.lt_trans (mk_lt _) (by decide)) (show y < 31 from by first | omega | assumption | rfl | (simp_all; done)) H.size) ⟨(va_cnB 2 hts gX1_has_X6_holds_n18 rfl rfl rfl (hN (RX1, 18, yX6_holds) (by decide +kernel)) (hts (.initialized RX6) (List.mem_of_getElem? (i := 3) rfl)) (by decide +kernel) ⟨Nat.le_of_ble_eq_true rfl, Nat.le_of_ble_eq_true rfl⟩), (hts (.static yX6_holds) (List.mem_of_getElem? (i := 2) rfl)), trivial⟩ (jPreS hN hK hP hD [] rfl rfl (by decide)) rfl rfl hl.1 rfl (lv_room (Nat.le_of_ble_eq_true rfl)) dX1_has_7 ⟨Nat.zero_le _, Nat.zero_le _⟩) hA hP hD hS [] [0, 1] (wr := [(q, .inr (1, [.ref a, .ref b, .int (nI nl), .int (nI nr), .int (nI ne)])), (a, .inl (aI, 12, (.inl (fun kk => nI (mk (E kk))))))]) rfl rfl (by decide) (by decide) (fun r_7 u_7 H locs q_7 hP hD hS => ?_)
  obtain ⟨rfl, -⟩ := q_7
  have hP : va_P D vwCl [(q, .inr (1, [.ref a, .ref b, .int (nI nl), .int (nI nr), .int (nI ne)])), (a, .inl (aI, 12, (.inl (fun kk => nI (mk (E kk))))))] H := hP
  have hD : va_D A [(q, .inr (1, [.ref a, .ref b, .int (nI nl), .int (nI nr), .int (nI ne)])), (a, .inl (aI, 12, (.inl (fun kk => nI (mk (E kk))))))] := hD
  refine j_topi (y := (bI (E x y))) (by rw [mk_tb' _ hy1]) ?_
  exact j_zret (w1 := fun u => w_X1_has_o aI aJ aZ q a b E nl nr ne x y u) (post := p_X1_has E nl nr ne x y) C () (E x y) rfl hP hD hS ⟨rfl, trivial⟩ dX1_has_10
abbrev w_X2_freeOf_o (aI aJ aZ : ClassId) (q : Nat) (p : Nat → Option Nat) (n : Nat) (u : Unit) : va_W := [(q, .inl (aI, 12, (.inl (fun kk => oI (p kk)))))]
abbrev p_X2_freeOf (p : Nat → Option Nat) (n : Nat) (r : Int32) (u : Unit) : Prop := r = nI (mk (fun z => decide (z < n) && (p z).isNone)) ∧ (True)
set_option maxHeartbeats 4000000 in
set_option maxRecDepth 100000 in
theorem c_X2_freeOf (l : Launch) (D : va_G) (aI aJ aZ : ClassId) (q : Nat) (p : Nat → Option Nat) (n : Nat) (hn : n ≤ 12) (hp : ∀ k v, p k = some v → v < 2 ^ 31) (sz : Nat) : Met l yX2_freeOf wsX2_freeOf ({ frames := 0, cells := 0, slots := 0, locals := 0 }) (va_Pc [.ref q, .int (nI n)] (jI D (jT aI aJ aZ) [(q, .inl (aI, 12, (.inl (fun kk => oI (p kk)))))] sz)) (va_Qi (S := Unit) (p_X2_freeOf p n) (fun u t => jO D (jT aI aJ aZ) (va_A [(q, .inl (aI, 12, (.inl (fun kk => oI (p kk)))))] sz) (w_X2_freeOf_o aI aJ aZ q p n u) t) (va_A [(q, .inl (aI, 12, (.inl (fun kk => oI (p kk)))))] sz)) 0 0 (va_A [(q, .inl (aI, 12, (.inl (fun kk => oI (p kk)))))] sz) := by
  refine j_of (Qc := fun A => va_Qi (S := Unit) (p_X2_freeOf p n) (fun u t => jO D (jT aI aJ aZ) A (w_X2_freeOf_o aI aJ aZ q p n u) t) A) (own := RX2) (nm := "freeOf") (by decide +kernel) rfl rfl rfl (by decide) ?_
  intro p e s m below meth c A ls C hP hD hS hl
  obtain ⟨hx, hb, hml, hown, hts, hK, hA, hlocks, hr, hn, hN⟩ := id C
  have key : ∀ N : Nat, (∀ (i : Nat) (H : Heap) (locs : List Loc) (ls : Array Slot), (13 - i) < N → (i ≤ n) → va_P D vwCl [(q, .inl (aI, 12, (.inl (fun kk => oI (p kk)))))] H → va_D A [(q, .inl (aI, 12, (.inl (fun kk => oI (p kk)))))] → va_S A s.heap H locs → lv_has ls 4 [(0, .ref q), (1, .int (nI n)), (2, .int (nI (mk (fun z => decide (z < i) && (p z).isNone)))), (3, .int (nI i))] → W p l e ({ frames := 0, cells := 0, slots := 0, locals := 0 }) s m ([.ref q, .int (nI n)] : List Value).toArray below meth c H locs 0 0 (MQ below (va_Qi (S := Unit) (p_X2_freeOf p n) (fun u t => jO D (jT aI aJ aZ) A (w_X2_freeOf_o aI aJ aZ q p n u) t) A) ([.ref q, .int (nI n)] : List Value).toArray s 0 0 A) (F0 m 4 ls [])) := by
    intro N
    induction N with
    | zero => exact fun _ _ _ _ h => absurd h (Nat.not_lt_zero _)
    | succ N ih =>
      have ih4 := ih
      intro i H locs ls hmeas hi hP hD hS hl
      refine lv_iload_n hx hb dX2_freeOf_4 rfl (lv_at hl 3 rfl) ?_
      refine lv_iload_n hx hb dX2_freeOf_5 rfl (lv_at hl 1 rfl) ?_
      refine lv_icmp_ge (tgt := 28) hx hb dX2_freeOf_6 (by decide) (fun c_6 => ?_) (fun c_6 => ?_)
      · rw [cv_le (by omega) (by omega)] at c_6
        refine lv_iload_n hx hb dX2_freeOf_28 rfl (lv_at hl 2 rfl) ?_
        have eV : nI (mk (fun z => decide (z < i) && (p z).isNone)) = nI (mk (fun z => decide (z < n) && (p z).isNone)) := by rw [show i = n by omega]
        exact j_iret (w1 := fun u => w_X2_freeOf_o aI aJ aZ q p n u) (post := p_X2_freeOf p n) C () hP hD hS ⟨eV, trivial⟩ dX2_freeOf_29
      · rw [cv_le (by omega) (by omega)] at c_6
        refine lv_aload_n hx hb dX2_freeOf_9 rfl (lv_at hl 0 rfl) ?_
        refine lv_iload_n hx hb dX2_freeOf_10 rfl (lv_at hl 3 rfl) ?_
        refine j_iald (v := oI (p i)) hx hb hK hP 0 0 rfl rfl (by omega) (by decide) (rfl) dX2_freeOf_11 ?_
        refine lv_iconst (v := oI none) hx hb dX2_freeOf_12 (by decide) ?_
        refine lv_icmp_ne (tgt := 22) hx hb dX2_freeOf_13 (by decide) (fun c_13 => ?_) (fun c_13 => ?_)
        · rw [show oI none = (-1 : Int32) from rfl, cv_oN (fun v hv => hp _ v hv)] at c_13
          obtain ⟨v1, hv1⟩ := some_of c_13
          refine lv_iinc (v := nI (i + 1)) (lv' := [(3, .int (nI (i + 1))), (0, .ref q), (1, .int (nI n)), (2, .int (nI (mk (fun z => decide (z < i) && (p z).isNone))))]) hx hb dX2_freeOf_22 hl (k := 3) rfl (inc_nI i 1) (by decide) rfl (fun ls hl => ?_)
          refine lv_goto (tgt := 4) hx hb dX2_freeOf_25 (by decide) ?_
          have hl := lv_sub (l' := [(0, .ref q), (1, .int (nI n)), (2, .int (nI (mk (fun z => decide (z < i) && (p z).isNone)))), (3, .int (nI (i + 1)))]) hl [1, 2, 3, 0] rfl
          have hl := lv_re hl 2 rfl (show (.int (nI (mk (fun z => decide (z < i) && (p z).isNone))) : Value) = .int (nI (mk (fun z => decide (z < (i + 1)) && (p z).isNone))) from congrArg _ (by first | (exact (congrArg nI (mk_0 (fun i _ => by simp))).symm) | exact congrArg nI (mk_congr (fun z hz => by rw [Bool.eq_iff_iff]; simp; by_cases e : z = i <;> simp_all; omega))))
          have hl : lv_has ls 4 [(0, .ref q), (1, .int (nI n)), (2, .int (nI (mk (fun z => decide (z < (i + 1)) && (p z).isNone)))), (3, .int (nI (i + 1)))] := hl
          exact ih4 (i + 1) _ _ _ (by omega) (show (i + 1) ≤ n from by first | omega | assumption | rfl | (simp_all; done)) hP hD hS hl
        · rw [show oI none = (-1 : Int32) from rfl, cv_oN (fun v hv => hp _ v hv)] at c_13
          rw [Decidable.not_not] at c_13
          refine lv_iload_n hx hb dX2_freeOf_16 rfl (lv_at hl 2 rfl) ?_
          refine lv_iconst (v := nI 1) hx hb dX2_freeOf_17 (by decide) ?_
          refine lv_iload_n hx hb dX2_freeOf_18 rfl (lv_at hl 3 rfl) ?_
          refine lv_ishl hx hb dX2_freeOf_19 ?_
          refine j_topi (y := (nI (2 ^ i))) (one_shl (by omega)) ?_
          refine lv_ior hx hb dX2_freeOf_20 ?_
          refine j_topi (y := (nI (mk (fun z => (decide (z < i) && (p z).isNone) || decide (z = i))))) (by rw [fa_or, mk_or_bit _ (by omega)]) ?_
          refine lv_istore_n (lv' := [(2, .int (nI (mk (fun z => (decide (z < i) && (p z).isNone) || decide (z = i))))), (0, .ref q), (1, .int (nI n)), (3, .int (nI i))]) hx hb dX2_freeOf_21 rfl hl (by decide) rfl (fun ls hl => ?_)
          refine lv_iinc (v := nI (i + 1)) (lv' := [(3, .int (nI (i + 1))), (2, .int (nI (mk (fun z => (decide (z < i) && (p z).isNone) || decide (z = i))))), (0, .ref q), (1, .int (nI n))]) hx hb dX2_freeOf_22 hl (k := 3) rfl (inc_nI i 1) (by decide) rfl (fun ls hl => ?_)
          refine lv_goto (tgt := 4) hx hb dX2_freeOf_25 (by decide) ?_
          have hl := lv_sub (l' := [(0, .ref q), (1, .int (nI n)), (2, .int (nI (mk (fun z => (decide (z < i) && (p z).isNone) || decide (z = i))))), (3, .int (nI (i + 1)))]) hl [2, 3, 1, 0] rfl
          have hl := lv_re hl 2 rfl (show (.int (nI (mk (fun z => (decide (z < i) && (p z).isNone) || decide (z = i)))) : Value) = .int (nI (mk (fun z => decide (z < (i + 1)) && (p z).isNone))) from congrArg _ (by first | (exact (congrArg nI (mk_0 (fun i _ => by simp))).symm) | exact congrArg nI (mk_congr (fun z hz => by rw [Bool.eq_iff_iff]; simp; by_cases e : z = i <;> simp_all; omega))))
          have hl : lv_has ls 4 [(0, .ref q), (1, .int (nI n)), (2, .int (nI (mk (fun z => decide (z < (i + 1)) && (p z).isNone)))), (3, .int (nI (i + 1)))] := hl
          exact ih4 (i + 1) _ _ _ (by omega) (show (i + 1) ≤ n from by first | omega | assumption | rfl | (simp_all; done)) hP hD hS hl
  have hl : lv_has ls 4 [(0, .ref q), (1, .int (nI n))] := hl
  refine lv_iconst (v := nI 0) hx hb dX2_freeOf_0 (by decide) ?_
  refine lv_istore_n (lv' := [(2, .int (nI 0)), (0, .ref q), (1, .int (nI n))]) hx hb dX2_freeOf_1 rfl hl (by decide) rfl (fun ls hl => ?_)
  refine lv_iconst (v := nI 0) hx hb dX2_freeOf_2 (by decide) ?_
  refine lv_istore_n (lv' := [(3, .int (nI 0)), (2, .int (nI 0)), (0, .ref q), (1, .int (nI n))]) hx hb dX2_freeOf_3 rfl hl (by decide) rfl (fun ls hl => ?_)
  have hl := lv_sub (l' := [(0, .ref q), (1, .int (nI n)), (2, .int (nI 0)), (3, .int (nI 0))]) hl [2, 3, 1, 0] rfl
  have hl := lv_re hl 2 rfl (show (.int (nI 0) : Value) = .int (nI (mk (fun z => decide (z < 0) && (p z).isNone))) from congrArg _ (by first | (exact (congrArg nI (mk_0 (fun i _ => by simp))).symm) | exact congrArg nI (mk_congr (fun z hz => by rw [Bool.eq_iff_iff]; simp; by_cases e : z = i <;> simp_all; omega))))
  have hl : lv_has ls 4 [(0, .ref q), (1, .int (nI n)), (2, .int (nI (mk (fun z => decide (z < 0) && (p z).isNone)))), (3, .int (nI 0))] := hl
  exact (key _) 0 _ _ _ (Nat.lt_succ_self _) (show 0 ≤ n from by first | omega | assumption | rfl | (simp_all; done)) hP hD hS hl
abbrev w_X2_freeLefts_o (aI aJ aZ : ClassId) (q a b : Nat) (p : Nat → Option Nat) (n : Nat) (pr : Int32) (u : Unit) : va_W := [(q, .inr (2, [.ref a, .ref b, .int pr])), (a, .inl (aI, 12, (.inl (fun kk => oI (p kk)))))]
abbrev p_X2_freeLefts (p : Nat → Option Nat) (n : Nat) (pr : Int32) (r : Int32) (u : Unit) : Prop := r = nI (mk (fun z => decide (z < n) && (p z).isNone)) ∧ (True)
set_option maxHeartbeats 4000000 in
set_option maxRecDepth 100000 in
theorem c_X2_freeLefts (l : Launch) (D : va_G) (aI aJ aZ : ClassId) (q a b : Nat) (p : Nat → Option Nat) (n : Nat) (pr : Int32) (hn0 : n ≤ 12) (hp : ∀ k v, p k = some v → v < 2 ^ 31) (sz : Nat) : Met l yX2_freeLefts wsX2_freeLefts ({ frames := 1, cells := 0, slots := 0, locals := 23 }) (va_Pc [.ref q, .int (nI n)] (jI D (jT aI aJ aZ) [(q, .inr (2, [.ref a, .ref b, .int pr])), (a, .inl (aI, 12, (.inl (fun kk => oI (p kk)))))] sz)) (va_Qi (S := Unit) (p_X2_freeLefts p n pr) (fun u t => jO D (jT aI aJ aZ) (va_A [(q, .inr (2, [.ref a, .ref b, .int pr])), (a, .inl (aI, 12, (.inl (fun kk => oI (p kk)))))] sz) (w_X2_freeLefts_o aI aJ aZ q a b p n pr u) t) (va_A [(q, .inr (2, [.ref a, .ref b, .int pr])), (a, .inl (aI, 12, (.inl (fun kk => oI (p kk)))))] sz)) 0 0 (va_A [(q, .inr (2, [.ref a, .ref b, .int pr])), (a, .inl (aI, 12, (.inl (fun kk => oI (p kk)))))] sz) := by
  refine j_of (Qc := fun A => va_Qi (S := Unit) (p_X2_freeLefts p n pr) (fun u t => jO D (jT aI aJ aZ) A (w_X2_freeLefts_o aI aJ aZ q a b p n pr u) t) A) (own := RX2) (nm := "freeLefts") (by decide +kernel) rfl rfl rfl (by decide) ?_
  intro p e s m below meth c A ls C hP hD hS hl
  obtain ⟨hx, hb, hml, hown, hts, hK, hA, hlocks, hr, hn, hN⟩ := id C
  have L_9 := hts (.fieldLink RX2 9 "Phasehall$Matching" "ofLeft" "[I") (List.mem_of_getElem? (i := 1) rfl)
  have inX2 : ∀ w ∈ wsX20, w ∈ wsX2_freeLefts := fun _ h => List.mem_cons_of_mem _ (List.mem_append_right _ h)
  have hl : lv_has ls 2 [(0, .ref q), (1, .int (nI n))] := hl
  refine lv_aload_n hx hb dX2_freeLefts_0 rfl (lv_at hl 0 rfl) ?_
  refine va_get (D := D) (ci := 2) (v := .ref a) (C := RX2) (T := TX2) (N := 3) hx hb hts inX2 hown hK hP 0 rfl rfl 0 (by decide) L_9 (fun _ h9 => h9) rfl dX2_freeLefts_1 ?_
  refine lv_iload_n hx hb dX2_freeLefts_4 rfl (lv_at hl 1 rfl) ?_
  refine j_calli (va_runS (As := [.ref a, .int (nI n)]) (rest := []) C.fix (c_X2_freeOf l D aI aJ aZ a p n (show n ≤ 12 from by first | omega | assumption | rfl | (simp_all; done)) (show ∀ k v, p k = some v → v < 2 ^ 31 from by first | omega | assumption | rfl | (simp_all; done)) H.size) (va_cwS 2 hts gX2_freeLefts_X2_freeOf rfl rfl rfl (by decide +kernel) ⟨Nat.le_of_ble_eq_true rfl, Nat.le_of_ble_eq_true rfl⟩) (jPreS hN hK hP hD [1] rfl rfl (by decide)) rfl rfl hl.1 rfl (lv_room (Nat.le_of_ble_eq_true rfl)) dX2_freeLefts_5 ⟨Nat.zero_le _, Nat.zero_le _⟩) hA hP hD hS [1] [0] (wr := [(q, .inr (2, [.ref a, .ref b, .int pr]))]) rfl rfl (by decide) (by decide) (fun r_5 u_5 H locs q_5 hP hD hS => ?_)
  obtain ⟨rfl, -⟩ := q_5
  have hP : va_P D vwCl [(q, .inr (2, [.ref a, .ref b, .int pr])), (a, .inl (aI, 12, (.inl (fun kk => oI (p kk)))))] H := hP
  have hD : va_D A [(q, .inr (2, [.ref a, .ref b, .int pr])), (a, .inl (aI, 12, (.inl (fun kk => oI (p kk)))))] := hD
  exact j_iret (w1 := fun u => w_X2_freeLefts_o aI aJ aZ q a b p n pr u) (post := p_X2_freeLefts p n pr) C () hP hD hS ⟨rfl, trivial⟩ dX2_freeLefts_8
abbrev w_X2_freeRights_o (aI aJ aZ : ClassId) (q a b : Nat) (p : Nat → Option Nat) (n : Nat) (pr : Int32) (u : Unit) : va_W := [(q, .inr (2, [.ref a, .ref b, .int pr])), (b, .inl (aI, 12, (.inl (fun kk => oI (p kk)))))]
abbrev p_X2_freeRights (p : Nat → Option Nat) (n : Nat) (pr : Int32) (r : Int32) (u : Unit) : Prop := r = nI (mk (fun z => decide (z < n) && (p z).isNone)) ∧ (True)
set_option maxHeartbeats 4000000 in
set_option maxRecDepth 100000 in
theorem c_X2_freeRights (l : Launch) (D : va_G) (aI aJ aZ : ClassId) (q a b : Nat) (p : Nat → Option Nat) (n : Nat) (pr : Int32) (hn0 : n ≤ 12) (hp : ∀ k v, p k = some v → v < 2 ^ 31) (sz : Nat) : Met l yX2_freeRights wsX2_freeRights ({ frames := 1, cells := 0, slots := 0, locals := 23 }) (va_Pc [.ref q, .int (nI n)] (jI D (jT aI aJ aZ) [(q, .inr (2, [.ref a, .ref b, .int pr])), (b, .inl (aI, 12, (.inl (fun kk => oI (p kk)))))] sz)) (va_Qi (S := Unit) (p_X2_freeRights p n pr) (fun u t => jO D (jT aI aJ aZ) (va_A [(q, .inr (2, [.ref a, .ref b, .int pr])), (b, .inl (aI, 12, (.inl (fun kk => oI (p kk)))))] sz) (w_X2_freeRights_o aI aJ aZ q a b p n pr u) t) (va_A [(q, .inr (2, [.ref a, .ref b, .int pr])), (b, .inl (aI, 12, (.inl (fun kk => oI (p kk)))))] sz)) 0 0 (va_A [(q, .inr (2, [.ref a, .ref b, .int pr])), (b, .inl (aI, 12, (.inl (fun kk => oI (p kk)))))] sz) := by
  refine j_of (Qc := fun A => va_Qi (S := Unit) (p_X2_freeRights p n pr) (fun u t => jO D (jT aI aJ aZ) A (w_X2_freeRights_o aI aJ aZ q a b p n pr u) t) A) (own := RX2) (nm := "freeRights") (by decide +kernel) rfl rfl rfl (by decide) ?_
  intro p e s m below meth c A ls C hP hD hS hl
  obtain ⟨hx, hb, hml, hown, hts, hK, hA, hlocks, hr, hn, hN⟩ := id C
  have L_15 := hts (.fieldLink RX2 15 "Phasehall$Matching" "ofRight" "[I") (List.mem_of_getElem? (i := 1) rfl)
  have inX2 : ∀ w ∈ wsX20, w ∈ wsX2_freeRights := fun _ h => List.mem_cons_of_mem _ (List.mem_append_right _ h)
  have hl : lv_has ls 2 [(0, .ref q), (1, .int (nI n))] := hl
  refine lv_aload_n hx hb dX2_freeRights_0 rfl (lv_at hl 0 rfl) ?_
  refine va_get (D := D) (ci := 2) (v := .ref b) (C := RX2) (T := TX2) (N := 3) hx hb hts inX2 hown hK hP 0 rfl rfl 1 (by decide) L_15 (fun _ h9 => h9) rfl dX2_freeRights_1 ?_
  refine lv_iload_n hx hb dX2_freeRights_4 rfl (lv_at hl 1 rfl) ?_
  refine j_calli (va_runS (As := [.ref b, .int (nI n)]) (rest := []) C.fix (c_X2_freeOf l D aI aJ aZ b p n (show n ≤ 12 from by first | omega | assumption | rfl | (simp_all; done)) (show ∀ k v, p k = some v → v < 2 ^ 31 from by first | omega | assumption | rfl | (simp_all; done)) H.size) (va_cwS 2 hts gX2_freeRights_X2_freeOf rfl rfl rfl (by decide +kernel) ⟨Nat.le_of_ble_eq_true rfl, Nat.le_of_ble_eq_true rfl⟩) (jPreS hN hK hP hD [1] rfl rfl (by decide)) rfl rfl hl.1 rfl (lv_room (Nat.le_of_ble_eq_true rfl)) dX2_freeRights_5 ⟨Nat.zero_le _, Nat.zero_le _⟩) hA hP hD hS [1] [0] (wr := [(q, .inr (2, [.ref a, .ref b, .int pr]))]) rfl rfl (by decide) (by decide) (fun r_5 u_5 H locs q_5 hP hD hS => ?_)
  obtain ⟨rfl, -⟩ := q_5
  have hP : va_P D vwCl [(q, .inr (2, [.ref a, .ref b, .int pr])), (b, .inl (aI, 12, (.inl (fun kk => oI (p kk)))))] H := hP
  have hD : va_D A [(q, .inr (2, [.ref a, .ref b, .int pr])), (b, .inl (aI, 12, (.inl (fun kk => oI (p kk)))))] := hD
  exact j_iret (w1 := fun u => w_X2_freeRights_o aI aJ aZ q a b p n pr u) (post := p_X2_freeRights p n pr) C () hP hD hS ⟨rfl, trivial⟩ dX2_freeRights_8
abbrev w_X0_union_o (aI aJ aZ : ClassId) (q : Nat) (N : Nat → Nat → Bool) (f : Nat → Bool) (u : Unit) : va_W := [(q, .inl (aI, 12, (.inl (fun kk => nI (mk (N kk))))))]
abbrev p_X0_union (N : Nat → Nat → Bool) (f : Nat → Bool) (r : Int32) (u : Unit) : Prop := r = nI (mk (fun z => ex 12 (fun w => f w && N w z))) ∧ (True)
set_option maxHeartbeats 4000000 in
set_option maxRecDepth 100000 in
theorem c_X0_union (l : Launch) (D : va_G) (aI aJ aZ : ClassId) (q : Nat) (N : Nat → Nat → Bool) (f : Nat → Bool)  (sz : Nat) : Met l yX0_union wsX0_union ({ frames := 1, cells := 0, slots := 0, locals := 21 }) (va_Pc [.ref q, .int (nI (mk f))] (jI D (jT aI aJ aZ) [(q, .inl (aI, 12, (.inl (fun kk => nI (mk (N kk))))))] sz)) (va_Qi (S := Unit) (p_X0_union N f) (fun u t => jO D (jT aI aJ aZ) (va_A [(q, .inl (aI, 12, (.inl (fun kk => nI (mk (N kk))))))] sz) (w_X0_union_o aI aJ aZ q N f u) t) (va_A [(q, .inl (aI, 12, (.inl (fun kk => nI (mk (N kk))))))] sz)) 0 0 (va_A [(q, .inl (aI, 12, (.inl (fun kk => nI (mk (N kk))))))] sz) := by
  refine j_of (Qc := fun A => va_Qi (S := Unit) (p_X0_union N f) (fun u t => jO D (jT aI aJ aZ) A (w_X0_union_o aI aJ aZ q N f u) t) A) (own := RX0) (nm := "union") (by decide +kernel) rfl rfl rfl (by decide) ?_
  intro p e s m below meth c A ls C hP hD hS hl
  obtain ⟨hx, hb, hml, hown, hts, hK, hA, hlocks, hr, hn, hN⟩ := id C
  have key : ∀ N : Nat, (∀ (i : Nat) (H : Heap) (locs : List Loc) (ls : Array Slot), (13 - i) < N → (i ≤ 12) → va_P D vwCl [(q, .inl (aI, 12, (.inl (fun kk => nI (mk (N kk))))))] H → va_D A [(q, .inl (aI, 12, (.inl (fun kk => nI (mk (N kk))))))] → va_S A s.heap H locs → lv_has ls 4 [(0, .ref q), (1, .int (nI (mk f))), (2, .int (nI (mk (fun z => ex i (fun w => f w && N w z))))), (3, .int (nI i))] → W p l e ({ frames := 1, cells := 0, slots := 0, locals := 21 }) s m ([.ref q, .int (nI (mk f))] : List Value).toArray below meth c H locs 0 0 (MQ below (va_Qi (S := Unit) (p_X0_union N f) (fun u t => jO D (jT aI aJ aZ) A (w_X0_union_o aI aJ aZ q N f u) t) A) ([.ref q, .int (nI (mk f))] : List Value).toArray s 0 0 A) (F0 m 4 ls [])) := by
    intro N
    induction N with
    | zero => exact fun _ _ _ _ h => absurd h (Nat.not_lt_zero _)
    | succ N ih =>
      have ih4 := ih
      intro i H locs ls hmeas hi hP hD hS hl
      refine lv_iload_n hx hb dX0_union_4 rfl (lv_at hl 3 rfl) ?_
      refine lv_bipush (v := nI 12) hx hb dX0_union_5 (by decide) ?_
      refine lv_icmp_ge (tgt := 30) hx hb dX0_union_7 (by decide) (fun c_7 => ?_) (fun c_7 => ?_)
      · rw [cv_le (by omega) (by omega)] at c_7
        refine lv_iload_n hx hb dX0_union_30 rfl (lv_at hl 2 rfl) ?_
        have eV : nI (mk (fun z => ex i (fun w => f w && N w z))) = nI (mk (fun z => ex 12 (fun w => f w && N w z))) := by rw [show i = 12 by omega]
        exact j_iret (w1 := fun u => w_X0_union_o aI aJ aZ q N f u) (post := p_X0_union N f) C () hP hD hS ⟨eV, trivial⟩ dX0_union_31
      · rw [cv_le (by omega) (by omega)] at c_7
        refine lv_iload_n hx hb dX0_union_10 rfl (lv_at hl 1 rfl) ?_
        refine lv_iload_n hx hb dX0_union_11 rfl (lv_at hl 3 rfl) ?_
        refine j_calli (va_runSN (As := [.int (nI (mk f)), .int (nI i)]) (rest := []) C.fix (c_X6_holds l D aI aJ aZ (mk f) i (show (mk f) < 2 ^ 31 from by exact Nat.lt_trans (mk_lt _) (by decide)) (show i < 31 from by first | omega | assumption | rfl | (simp_all; done)) H.size) ⟨(va_cnB 2 hts gX0_union_X6_holds_n68 rfl rfl rfl (hN (RX0, 68, yX6_holds) (by decide +kernel)) (hts (.initialized RX6) (List.mem_of_getElem? (i := 2) rfl)) (by decide +kernel) ⟨Nat.le_of_ble_eq_true rfl, Nat.le_of_ble_eq_true rfl⟩), (hts (.static yX6_holds) (List.mem_of_getElem? (i := 1) rfl)), trivial⟩ (jPreS hN hK hP hD [] rfl rfl (by decide)) rfl rfl hl.1 rfl (lv_room (Nat.le_of_ble_eq_true rfl)) dX0_union_12 ⟨Nat.zero_le _, Nat.zero_le _⟩) hA hP hD hS [] [0] (wr := [(q, .inl (aI, 12, (.inl (fun kk => nI (mk (N kk))))))]) rfl rfl (by decide) (by decide) (fun r_12 u_12 H locs q_12 hP hD hS => ?_)
        obtain ⟨rfl, -⟩ := q_12
        have hP : va_P D vwCl [(q, .inl (aI, 12, (.inl (fun kk => nI (mk (N kk))))))] H := hP
        have hD : va_D A [(q, .inl (aI, 12, (.inl (fun kk => nI (mk (N kk))))))] := hD
        refine j_topi (y := (bI (f i))) (by rw [mk_tb' _ (by omega)]) ?_
        refine lv_if_eq (tgt := 24) hx hb dX0_union_15 (by decide) (fun c_15 => ?_) (fun c_15 => ?_)
        · rw [cv_b0] at c_15
          refine lv_iinc (v := nI (i + 1)) (lv' := [(3, .int (nI (i + 1))), (0, .ref q), (1, .int (nI (mk f))), (2, .int (nI (mk (fun z => ex i (fun w => f w && N w z)))))]) hx hb dX0_union_24 hl (k := 3) rfl (inc_nI i 1) (by decide) rfl (fun ls hl => ?_)
          refine lv_goto (tgt := 4) hx hb dX0_union_27 (by decide) ?_
          have hl := lv_sub (l' := [(0, .ref q), (1, .int (nI (mk f))), (2, .int (nI (mk (fun z => ex i (fun w => f w && N w z))))), (3, .int (nI (i + 1)))]) hl [1, 2, 3, 0] rfl
          have hl := lv_re hl 2 rfl (show (.int (nI (mk (fun z => ex i (fun w => f w && N w z)))) : Value) = .int (nI (mk (fun z => ex (i + 1) (fun w => f w && N w z)))) from congrArg _ (by exact congrArg nI (mk_congr (fun z hz => by simp [ex_succ, c_15]))))
          have hl : lv_has ls 4 [(0, .ref q), (1, .int (nI (mk f))), (2, .int (nI (mk (fun z => ex (i + 1) (fun w => f w && N w z))))), (3, .int (nI (i + 1)))] := hl
          exact ih4 (i + 1) _ _ _ (by omega) (show (i + 1) ≤ 12 from by first | omega | assumption | rfl | (simp_all; done)) hP hD hS hl
        · rw [cv_b0] at c_15
          rw [cv_nb] at c_15
          refine lv_iload_n hx hb dX0_union_18 rfl (lv_at hl 2 rfl) ?_
          refine lv_aload_n hx hb dX0_union_19 rfl (lv_at hl 0 rfl) ?_
          refine lv_iload_n hx hb dX0_union_20 rfl (lv_at hl 3 rfl) ?_
          refine j_iald (v := nI (mk (N i))) hx hb hK hP 0 0 rfl rfl (by omega) (by decide) (rfl) dX0_union_21 ?_
          refine lv_ior hx hb dX0_union_22 ?_
          refine j_topi (y := (nI (mk (fun z => ex i (fun w => f w && N w z) || N i z)))) (by rw [fa_or, mk_or]) ?_
          refine lv_istore_n (lv' := [(2, .int (nI (mk (fun z => ex i (fun w => f w && N w z) || N i z)))), (0, .ref q), (1, .int (nI (mk f))), (3, .int (nI i))]) hx hb dX0_union_23 rfl hl (by decide) rfl (fun ls hl => ?_)
          refine lv_iinc (v := nI (i + 1)) (lv' := [(3, .int (nI (i + 1))), (2, .int (nI (mk (fun z => ex i (fun w => f w && N w z) || N i z)))), (0, .ref q), (1, .int (nI (mk f)))]) hx hb dX0_union_24 hl (k := 3) rfl (inc_nI i 1) (by decide) rfl (fun ls hl => ?_)
          refine lv_goto (tgt := 4) hx hb dX0_union_27 (by decide) ?_
          have hl := lv_sub (l' := [(0, .ref q), (1, .int (nI (mk f))), (2, .int (nI (mk (fun z => ex i (fun w => f w && N w z) || N i z)))), (3, .int (nI (i + 1)))]) hl [2, 3, 1, 0] rfl
          have hl := lv_re hl 2 rfl (show (.int (nI (mk (fun z => ex i (fun w => f w && N w z) || N i z))) : Value) = .int (nI (mk (fun z => ex (i + 1) (fun w => f w && N w z)))) from congrArg _ (by exact congrArg nI (mk_congr (fun z hz => by simp [ex_succ, c_15]))))
          have hl : lv_has ls 4 [(0, .ref q), (1, .int (nI (mk f))), (2, .int (nI (mk (fun z => ex (i + 1) (fun w => f w && N w z))))), (3, .int (nI (i + 1)))] := hl
          exact ih4 (i + 1) _ _ _ (by omega) (show (i + 1) ≤ 12 from by first | omega | assumption | rfl | (simp_all; done)) hP hD hS hl
  have hl : lv_has ls 4 [(0, .ref q), (1, .int (nI (mk f)))] := hl
  refine lv_iconst (v := nI 0) hx hb dX0_union_0 (by decide) ?_
  refine lv_istore_n (lv' := [(2, .int (nI 0)), (0, .ref q), (1, .int (nI (mk f)))]) hx hb dX0_union_1 rfl hl (by decide) rfl (fun ls hl => ?_)
  refine lv_iconst (v := nI 0) hx hb dX0_union_2 (by decide) ?_
  refine lv_istore_n (lv' := [(3, .int (nI 0)), (2, .int (nI 0)), (0, .ref q), (1, .int (nI (mk f)))]) hx hb dX0_union_3 rfl hl (by decide) rfl (fun ls hl => ?_)
  have hl := lv_sub (l' := [(0, .ref q), (1, .int (nI (mk f))), (2, .int (nI 0)), (3, .int (nI 0))]) hl [2, 3, 1, 0] rfl
  have hl := lv_re hl 2 rfl (show (.int (nI 0) : Value) = .int (nI (mk (fun z => ex 0 (fun w => f w && N w z)))) from congrArg _ (by exact (congrArg nI (mk_0 (fun _ _ => rfl))).symm))
  have hl : lv_has ls 4 [(0, .ref q), (1, .int (nI (mk f))), (2, .int (nI (mk (fun z => ex 0 (fun w => f w && N w z))))), (3, .int (nI 0))] := hl
  exact (key _) 0 _ _ _ (Nat.lt_succ_self _) (show 0 ≤ 12 from by first | omega | assumption | rfl | (simp_all; done)) hP hD hS hl
abbrev w_X0_partIn_o (aI aJ aZ : ClassId)  (f : Nat → Bool) (g : Nat → Bool) (i : Nat) (u : Unit) : va_W := []
abbrev p_X0_partIn (f : Nat → Bool) (g : Nat → Bool) (i : Nat) (r : Int32) (u : Unit) : Prop := r = nI (if f i then 0 else if g i then 2 else 1) ∧ (True)
set_option maxHeartbeats 4000000 in
set_option maxRecDepth 100000 in
theorem c_X0_partIn (l : Launch) (D : va_G) (aI aJ aZ : ClassId)  (f : Nat → Bool) (g : Nat → Bool) (i : Nat) (hi0 : i < 12) (sz : Nat) : Met l yX0_partIn wsX0_partIn ({ frames := 1, cells := 0, slots := 0, locals := 21 }) (va_Pc [.int (nI (mk f)), .int (nI (mk g)), .int (nI i)] (jI D (jT aI aJ aZ) [] sz)) (va_Qi (S := Unit) (p_X0_partIn f g i) (fun u t => jO D (jT aI aJ aZ) (va_A [] sz) (w_X0_partIn_o aI aJ aZ f g i u) t) (va_A [] sz)) 0 0 (va_A [] sz) := by
  refine j_of (Qc := fun A => va_Qi (S := Unit) (p_X0_partIn f g i) (fun u t => jO D (jT aI aJ aZ) A (w_X0_partIn_o aI aJ aZ f g i u) t) A) (own := RX0) (nm := "partIn") (by decide +kernel) rfl rfl rfl (by decide) ?_
  intro p e s m below meth c A ls C hP hD hS hl
  obtain ⟨hx, hb, hml, hown, hts, hK, hA, hlocks, hr, hn, hN⟩ := id C
  have hl : lv_has ls 3 [(0, .int (nI (mk f))), (1, .int (nI (mk g))), (2, .int (nI i))] := hl
  refine lv_iload_n hx hb dX0_partIn_0 rfl (lv_at hl 0 rfl) ?_
  refine lv_iload_n hx hb dX0_partIn_1 rfl (lv_at hl 2 rfl) ?_
  refine j_calli (va_runSN (As := [.int (nI (mk f)), .int (nI i)]) (rest := []) C.fix (c_X6_holds l D aI aJ aZ (mk f) i (show (mk f) < 2 ^ 31 from by exact Nat.lt_trans (mk_lt _) (by decide)) (show i < 31 from by first | omega | assumption | rfl | (simp_all; done)) H.size) ⟨(va_cnB 2 hts gX0_partIn_X6_holds_n68 rfl rfl rfl (hN (RX0, 68, yX6_holds) (by decide +kernel)) (hts (.initialized RX6) (List.mem_of_getElem? (i := 2) rfl)) (by decide +kernel) ⟨Nat.le_of_ble_eq_true rfl, Nat.le_of_ble_eq_true rfl⟩), (hts (.static yX6_holds) (List.mem_of_getElem? (i := 1) rfl)), trivial⟩ (jPreS hN hK hP hD [] rfl rfl (by decide)) rfl rfl hl.1 rfl (lv_room (Nat.le_of_ble_eq_true rfl)) dX0_partIn_2 ⟨Nat.zero_le _, Nat.zero_le _⟩) hA hP hD hS [] [] (wr := []) rfl rfl (by decide) (by decide) (fun r_2 u_2 H locs q_2 hP hD hS => ?_)
  obtain ⟨rfl, -⟩ := q_2
  have hP : va_P D vwCl [] H := hP
  have hD : va_D A [] := hD
  refine j_topi (y := (bI (f i))) (by rw [mk_tb' _ hi0]) ?_
  refine lv_if_eq (tgt := 10) hx hb dX0_partIn_5 (by decide) (fun c_5 => ?_) (fun c_5 => ?_)
  · rw [cv_b0] at c_5
    refine lv_iload_n hx hb dX0_partIn_10 rfl (lv_at hl 1 rfl) ?_
    refine lv_iload_n hx hb dX0_partIn_11 rfl (lv_at hl 2 rfl) ?_
    refine j_calli (va_runSN (As := [.int (nI (mk g)), .int (nI i)]) (rest := []) C.fix (c_X6_holds l D aI aJ aZ (mk g) i (show (mk g) < 2 ^ 31 from by exact Nat.lt_trans (mk_lt _) (by decide)) (show i < 31 from by first | omega | assumption | rfl | (simp_all; done)) H.size) ⟨(va_cnB 2 hts gX0_partIn_X6_holds_n68 rfl rfl rfl (hN (RX0, 68, yX6_holds) (by decide +kernel)) (hts (.initialized RX6) (List.mem_of_getElem? (i := 2) rfl)) (by decide +kernel) ⟨Nat.le_of_ble_eq_true rfl, Nat.le_of_ble_eq_true rfl⟩), (hts (.static yX6_holds) (List.mem_of_getElem? (i := 1) rfl)), trivial⟩ (jPreS hN hK hP hD [] rfl rfl (by decide)) rfl rfl hl.1 rfl (lv_room (Nat.le_of_ble_eq_true rfl)) dX0_partIn_12 ⟨Nat.zero_le _, Nat.zero_le _⟩) hA hP hD hS [] [] (wr := []) rfl rfl (by decide) (by decide) (fun r_12 u_12 H locs q_12 hP hD hS => ?_)
    obtain ⟨rfl, -⟩ := q_12
    have hP : va_P D vwCl [] H := hP
    have hD : va_D A [] := hD
    refine j_topi (y := (bI (g i))) (by rw [mk_tb' _ hi0]) ?_
    refine lv_if_eq (tgt := 22) hx hb dX0_partIn_15 (by decide) (fun c_15 => ?_) (fun c_15 => ?_)
    · rw [cv_b0] at c_15
      refine lv_iconst (v := nI 1) hx hb dX0_partIn_22 (by decide) ?_
      have eV : nI 1 = nI (if f i then 0 else if g i then 2 else 1) := by simp_all
      exact j_iret (w1 := fun u => w_X0_partIn_o aI aJ aZ f g i u) (post := p_X0_partIn f g i) C () hP hD hS ⟨eV, trivial⟩ dX0_partIn_23
    · rw [cv_b0] at c_15
      rw [cv_nb] at c_15
      refine lv_iconst (v := nI 2) hx hb dX0_partIn_18 (by decide) ?_
      refine lv_goto (tgt := 23) hx hb dX0_partIn_19 (by decide) ?_
      have eV : nI 2 = nI (if f i then 0 else if g i then 2 else 1) := by simp_all
      exact j_iret (w1 := fun u => w_X0_partIn_o aI aJ aZ f g i u) (post := p_X0_partIn f g i) C () hP hD hS ⟨eV, trivial⟩ dX0_partIn_23
  · rw [cv_b0] at c_5
    rw [cv_nb] at c_5
    refine lv_iconst (v := nI 0) hx hb dX0_partIn_8 (by decide) ?_
    have eV : nI 0 = nI (if f i then 0 else if g i then 2 else 1) := by simp_all
    exact j_iret (w1 := fun u => w_X0_partIn_o aI aJ aZ f g i u) (post := p_X0_partIn f g i) C () hP hD hS ⟨eV, trivial⟩ dX0_partIn_9
