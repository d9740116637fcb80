abbrev w_X7_thrown_o (aI aJ aZ : ClassId) (o ed ol ri bu bv dq pq lq wf tq yq rq fq gl gr rc wq : Nat) (rf : Int32) (nl : Nat) (nr : Nat) (uu0 : Unit) : va_W := [(o, .inr (7, [.int rf, .int (nI nl), .int (nI nr), .ref ed, .ref ol, .ref ri, .ref bu, .ref bv, .ref dq, .ref pq, .ref lq, .ref wf, .ref tq, .ref yq, .ref rq, .ref fq, .ref gl, .ref gr, .ref rc, .ref wq]))]
abbrev p_X7_thrown (rf : Int32) (nl : Nat) (nr : Nat) (rr0 : Int32) (uu0 : Unit) : Prop := rr0 = rf ∧ (True)
set_option maxHeartbeats 4000000 in
set_option maxRecDepth 100000 in
theorem c_X7_thrown (l : Launch) (D : va_G) (aI aJ aZ : ClassId) (o ed ol ri bu bv dq pq lq wf tq yq rq fq gl gr rc wq : Nat) (rf : Int32) (nl : Nat) (nr : Nat)  (sz : Nat) : Met l yX7_thrown wsX7_thrown ({ frames := 0, cells := 0, slots := 0, locals := 0 }) (va_Pc [.ref o] (jI D (jT aI aJ aZ) [(o, .inr (7, [.int rf, .int (nI nl), .int (nI nr), .ref ed, .ref ol, .ref ri, .ref bu, .ref bv, .ref dq, .ref pq, .ref lq, .ref wf, .ref tq, .ref yq, .ref rq, .ref fq, .ref gl, .ref gr, .ref rc, .ref wq]))] sz)) (va_Qi (S := Unit) (p_X7_thrown rf nl nr) (fun u t => jO D (jT aI aJ aZ) (va_A [(o, .inr (7, [.int rf, .int (nI nl), .int (nI nr), .ref ed, .ref ol, .ref ri, .ref bu, .ref bv, .ref dq, .ref pq, .ref lq, .ref wf, .ref tq, .ref yq, .ref rq, .ref fq, .ref gl, .ref gr, .ref rc, .ref wq]))] sz) (w_X7_thrown_o aI aJ aZ o ed ol ri bu bv dq pq lq wf tq yq rq fq gl gr rc wq rf nl nr u) t) (va_A [(o, .inr (7, [.int rf, .int (nI nl), .int (nI nr), .ref ed, .ref ol, .ref ri, .ref bu, .ref bv, .ref dq, .ref pq, .ref lq, .ref wf, .ref tq, .ref yq, .ref rq, .ref fq, .ref gl, .ref gr, .ref rc, .ref wq]))] sz)) 0 0 (va_A [(o, .inr (7, [.int rf, .int (nI nl), .int (nI nr), .ref ed, .ref ol, .ref ri, .ref bu, .ref bv, .ref dq, .ref pq, .ref lq, .ref wf, .ref tq, .ref yq, .ref rq, .ref fq, .ref gl, .ref gr, .ref rc, .ref wq]))] sz) := by
  refine j_of (Qc := fun A => va_Qi (S := Unit) (p_X7_thrown rf nl nr) (fun u t => jO D (jT aI aJ aZ) A (w_X7_thrown_o aI aJ aZ o ed ol ri bu bv dq pq lq wf tq yq rq fq gl gr rc wq rf nl nr u) t) A) (own := RX7) (nm := "thrown") (by decide +kernel) rfl rfl rfl (Nat.le_of_ble_eq_true rfl) ?_
  intro p e s m below meth c A ls H locs C hP hD hS hl
  obtain ⟨hx, hb, hml, hown, hts, hK, hA, hlocks, hr, hn, hN⟩ := id C
  have L_63 := hts (.fieldLink RX7 63 "PhasehallModel" "refusal" "I") (List.mem_of_getElem? (i := 1) rfl)
  have inX7 : ∀ w ∈ wsX70, w ∈ wsX7_thrown := fun _ h => List.mem_cons_of_mem _ (List.mem_append_right _ h)
  have hl : lv_has ls 1 [(0, .ref o)] := hl
  refine lv_aload_n hx hb dX7_thrown_0 rfl (lv_at hl 0 rfl) ?_
  refine va_get (D := D) (ci := 7) (v := .int rf) (C := RX7) (T := TX7) (N := 20) hx hb hts inX7 hown hK hP 0 rfl rfl 0 (by decide) L_63 (fun _ h9 => h9) rfl dX7_thrown_1 ?_
  exact j_iret (w1 := fun u => w_X7_thrown_o aI aJ aZ o ed ol ri bu bv dq pq lq wf tq yq rq fq gl gr rc wq rf nl nr u) (post := p_X7_thrown rf nl nr) C () hP hD hS ⟨rfl, trivial⟩ dX7_thrown_4
abbrev w_X7_refused_o (aI aJ aZ : ClassId) (o ed ol ri bu bv dq pq lq wf tq yq rq fq gl gr rc wq : Nat) (rf : Int32) (nl : Nat) (nr : Nat) (w0 : Nat) (uu0 : Unit) : va_W := [(o, .inr (7, [.int (nI w0), .int (nI nl), .int (nI nr), .ref ed, .ref ol, .ref ri, .ref bu, .ref bv, .ref dq, .ref pq, .ref lq, .ref wf, .ref tq, .ref yq, .ref rq, .ref fq, .ref gl, .ref gr, .ref rc, .ref wq]))]
abbrev p_X7_refused (rf : Int32) (nl : Nat) (nr : Nat) (w0 : Nat) (rr0 : Int32) (uu0 : Unit) : Prop := rr0 = bI (decide (w0 ≠ 0)) ∧ (True)
set_option maxHeartbeats 4000000 in
set_option maxRecDepth 100000 in
theorem c_X7_refused (l : Launch) (D : va_G) (aI aJ aZ : ClassId) (o ed ol ri bu bv dq pq lq wf tq yq rq fq gl gr rc wq : Nat) (rf : Int32) (nl : Nat) (nr : Nat) (w0 : Nat) (hw : w0 < 2 ^ 31) (sz : Nat) : Met l yX7_refused wsX7_refused ({ frames := 0, cells := 0, slots := 0, locals := 0 }) (va_Pc [.ref o, .int (nI w0)] (jI D (jT aI aJ aZ) [(o, .inr (7, [.int rf, .int (nI nl), .int (nI nr), .ref ed, .ref ol, .ref ri, .ref bu, .ref bv, .ref dq, .ref pq, .ref lq, .ref wf, .ref tq, .ref yq, .ref rq, .ref fq, .ref gl, .ref gr, .ref rc, .ref wq]))] sz)) (va_Qi (S := Unit) (p_X7_refused rf nl nr w0) (fun u t => jO D (jT aI aJ aZ) (va_A [(o, .inr (7, [.int rf, .int (nI nl), .int (nI nr), .ref ed, .ref ol, .ref ri, .ref bu, .ref bv, .ref dq, .ref pq, .ref lq, .ref wf, .ref tq, .ref yq, .ref rq, .ref fq, .ref gl, .ref gr, .ref rc, .ref wq]))] sz) (w_X7_refused_o aI aJ aZ o ed ol ri bu bv dq pq lq wf tq yq rq fq gl gr rc wq rf nl nr w0 u) t) (va_A [(o, .inr (7, [.int rf, .int (nI nl), .int (nI nr), .ref ed, .ref ol, .ref ri, .ref bu, .ref bv, .ref dq, .ref pq, .ref lq, .ref wf, .ref tq, .ref yq, .ref rq, .ref fq, .ref gl, .ref gr, .ref rc, .ref wq]))] sz)) 0 0 (va_A [(o, .inr (7, [.int rf, .int (nI nl), .int (nI nr), .ref ed, .ref ol, .ref ri, .ref bu, .ref bv, .ref dq, .ref pq, .ref lq, .ref wf, .ref tq, .ref yq, .ref rq, .ref fq, .ref gl, .ref gr, .ref rc, .ref wq]))] sz) := by
  refine j_of (Qc := fun A => va_Qi (S := Unit) (p_X7_refused rf nl nr w0) (fun u t => jO D (jT aI aJ aZ) A (w_X7_refused_o aI aJ aZ o ed ol ri bu bv dq pq lq wf tq yq rq fq gl gr rc wq rf nl nr w0 u) t) A) (own := RX7) (nm := "refused") (by decide +kernel) rfl rfl rfl (Nat.le_of_ble_eq_true rfl) ?_
  intro p e s m below meth c A ls H locs C hP hD hS hl
  obtain ⟨hx, hb, hml, hown, hts, hK, hA, hlocks, hr, hn, hN⟩ := id C
  have L_63 := hts (.fieldLink RX7 63 "PhasehallModel" "refusal" "I") (List.mem_of_getElem? (i := 1) rfl)
  have inX7 : ∀ w ∈ wsX70, w ∈ wsX7_refused := fun _ h => List.mem_cons_of_mem _ (List.mem_append_right _ h)
  have hl : lv_has ls 2 [(0, .ref o), (1, .int (nI w0))] := hl
  refine lv_aload_n hx hb dX7_refused_0 rfl (lv_at hl 0 rfl) ?_
  refine lv_iload_n hx hb dX7_refused_1 rfl (lv_at hl 1 rfl) ?_
  refine va_put (D := D) (ci := 7) (v := .int (nI w0)) (ty := .int) (C := RX7) (T := TX7) (N := 20) hx hb hts inX7 tyX7 tyX7_ok nmX7 hown hK hP hD hS 0 rfl rfl 0 (by decide) L_63 (fun _ h9 => h9) rfl (by decide +kernel) rfl rfl (Nat.le_of_ble_eq_true rfl) dX7_refused_2 (fun H locs hP hD hS => ?_)
  have hP : va_P D vwCl [(o, .inr (7, [.int (nI w0), .int (nI nl), .int (nI nr), .ref ed, .ref ol, .ref ri, .ref bu, .ref bv, .ref dq, .ref pq, .ref lq, .ref wf, .ref tq, .ref yq, .ref rq, .ref fq, .ref gl, .ref gr, .ref rc, .ref wq]))] H := hP
  have hD : va_D A [(o, .inr (7, [.int (nI w0), .int (nI nl), .int (nI nr), .ref ed, .ref ol, .ref ri, .ref bu, .ref bv, .ref dq, .ref pq, .ref lq, .ref wf, .ref tq, .ref yq, .ref rq, .ref fq, .ref gl, .ref gr, .ref rc, .ref wq]))] := hD
  refine lv_iload_n hx hb dX7_refused_5 rfl (lv_at hl 1 rfl) ?_
  refine lv_if_eq (tgt := 13) hx hb dX7_refused_6 (by decide) (fun c_6 => ?_) (fun c_6 => ?_)
  · rw [cv_eq0 (by omega)] at c_6
    refine lv_iconst (v := nI 0) hx hb dX7_refused_13 (by decide) ?_
    have eV : nI 0 = bI (decide (w0 ≠ 0)) := by rw [c_6]; rfl
    exact j_zret (w1 := fun u => w_X7_refused_o aI aJ aZ o ed ol ri bu bv dq pq lq wf tq yq rq fq gl gr rc wq rf nl nr w0 u) (post := p_X7_refused rf nl nr w0) C () (decide (w0 ≠ 0)) eV hP hD hS ⟨rfl, trivial⟩ dX7_refused_14
  · rw [cv_eq0 (by omega)] at c_6
    refine lv_iconst (v := nI 1) hx hb dX7_refused_9 (by decide) ?_
    refine lv_goto (tgt := 14) hx hb dX7_refused_10 (by decide) ?_
    have eV : nI 1 = bI (decide (w0 ≠ 0)) := by rw [show decide (w0 ≠ 0) = true from decide_eq_true c_6]; rfl
    exact j_zret (w1 := fun u => w_X7_refused_o aI aJ aZ o ed ol ri bu bv dq pq lq wf tq yq rq fq gl gr rc wq rf nl nr w0 u) (post := p_X7_refused rf nl nr w0) C () (decide (w0 ≠ 0)) eV hP hD hS ⟨rfl, trivial⟩ dX7_refused_14
abbrev w_X7_fine_o (aI aJ aZ : ClassId) (o ed ol ri bu bv dq pq lq wf tq yq rq fq gl gr rc wq : Nat) (rf : Int32) (nl : Nat) (nr : Nat) (v0 : Int32) (uu0 : Unit) : va_W := [(o, .inr (7, [.int (nI 0), .int (nI nl), .int (nI nr), .ref ed, .ref ol, .ref ri, .ref bu, .ref bv, .ref dq, .ref pq, .ref lq, .ref wf, .ref tq, .ref yq, .ref rq, .ref fq, .ref gl, .ref gr, .ref rc, .ref wq]))]
abbrev p_X7_fine (rf : Int32) (nl : Nat) (nr : Nat) (v0 : Int32) (rr0 : Int32) (uu0 : Unit) : Prop := rr0 = v0 ∧ (True)
set_option maxHeartbeats 4000000 in
set_option maxRecDepth 100000 in
theorem c_X7_fine (l : Launch) (D : va_G) (aI aJ aZ : ClassId) (o ed ol ri bu bv dq pq lq wf tq yq rq fq gl gr rc wq : Nat) (rf : Int32) (nl : Nat) (nr : Nat) (v0 : Int32)  (sz : Nat) : Met l yX7_fine wsX7_fine ({ frames := 0, cells := 0, slots := 0, locals := 0 }) (va_Pc [.ref o, .int v0] (jI D (jT aI aJ aZ) [(o, .inr (7, [.int rf, .int (nI nl), .int (nI nr), .ref ed, .ref ol, .ref ri, .ref bu, .ref bv, .ref dq, .ref pq, .ref lq, .ref wf, .ref tq, .ref yq, .ref rq, .ref fq, .ref gl, .ref gr, .ref rc, .ref wq]))] sz)) (va_Qi (S := Unit) (p_X7_fine rf nl nr v0) (fun u t => jO D (jT aI aJ aZ) (va_A [(o, .inr (7, [.int rf, .int (nI nl), .int (nI nr), .ref ed, .ref ol, .ref ri, .ref bu, .ref bv, .ref dq, .ref pq, .ref lq, .ref wf, .ref tq, .ref yq, .ref rq, .ref fq, .ref gl, .ref gr, .ref rc, .ref wq]))] sz) (w_X7_fine_o aI aJ aZ o ed ol ri bu bv dq pq lq wf tq yq rq fq gl gr rc wq rf nl nr v0 u) t) (va_A [(o, .inr (7, [.int rf, .int (nI nl), .int (nI nr), .ref ed, .ref ol, .ref ri, .ref bu, .ref bv, .ref dq, .ref pq, .ref lq, .ref wf, .ref tq, .ref yq, .ref rq, .ref fq, .ref gl, .ref gr, .ref rc, .ref wq]))] sz)) 0 0 (va_A [(o, .inr (7, [.int rf, .int (nI nl), .int (nI nr), .ref ed, .ref ol, .ref ri, .ref bu, .ref bv, .ref dq, .ref pq, .ref lq, .ref wf, .ref tq, .ref yq, .ref rq, .ref fq, .ref gl, .ref gr, .ref rc, .ref wq]))] sz) := by
  refine j_of (Qc := fun A => va_Qi (S := Unit) (p_X7_fine rf nl nr v0) (fun u t => jO D (jT aI aJ aZ) A (w_X7_fine_o aI aJ aZ o ed ol ri bu bv dq pq lq wf tq yq rq fq gl gr rc wq rf nl nr v0 u) t) A) (own := RX7) (nm := "fine") (by decide +kernel) rfl rfl rfl (Nat.le_of_ble_eq_true rfl) ?_
  intro p e s m below meth c A ls H locs C hP hD hS hl
  obtain ⟨hx, hb, hml, hown, hts, hK, hA, hlocks, hr, hn, hN⟩ := id C
  have L_63 := hts (.fieldLink RX7 63 "PhasehallModel" "refusal" "I") (List.mem_of_getElem? (i := 1) rfl)
  have inX7 : ∀ w ∈ wsX70, w ∈ wsX7_fine := fun _ h => List.mem_cons_of_mem _ (List.mem_append_right _ h)
  have hl : lv_has ls 2 [(0, .ref o), (1, .int v0)] := hl
  refine lv_aload_n hx hb dX7_fine_0 rfl (lv_at hl 0 rfl) ?_
  refine lv_iconst (v := nI 0) hx hb dX7_fine_1 (by decide) ?_
  refine va_put (D := D) (ci := 7) (v := .int (nI 0)) (ty := .int) (C := RX7) (T := TX7) (N := 20) hx hb hts inX7 tyX7 tyX7_ok nmX7 hown hK hP hD hS 0 rfl rfl 0 (by decide) L_63 (fun _ h9 => h9) rfl (by decide +kernel) rfl rfl (Nat.le_of_ble_eq_true rfl) dX7_fine_2 (fun H locs hP hD hS => ?_)
  have hP : va_P D vwCl [(o, .inr (7, [.int (nI 0), .int (nI nl), .int (nI nr), .ref ed, .ref ol, .ref ri, .ref bu, .ref bv, .ref dq, .ref pq, .ref lq, .ref wf, .ref tq, .ref yq, .ref rq, .ref fq, .ref gl, .ref gr, .ref rc, .ref wq]))] H := hP
  have hD : va_D A [(o, .inr (7, [.int (nI 0), .int (nI nl), .int (nI nr), .ref ed, .ref ol, .ref ri, .ref bu, .ref bv, .ref dq, .ref pq, .ref lq, .ref wf, .ref tq, .ref yq, .ref rq, .ref fq, .ref gl, .ref gr, .ref rc, .ref wq]))] := hD
  refine lv_iload_n hx hb dX7_fine_5 rfl (lv_at hl 1 rfl) ?_
  exact j_iret (w1 := fun u => w_X7_fine_o aI aJ aZ o ed ol ri bu bv dq pq lq wf tq yq rq fq gl gr rc wq rf nl nr v0 u) (post := p_X7_fine rf nl nr v0) C () hP hD hS ⟨rfl, trivial⟩ dX7_fine_6
abbrev w_X7_isLeft_o (aI aJ aZ : ClassId) (o ed ol ri bu bv dq pq lq wf tq yq rq fq gl gr rc wq : Nat) (rf : Int32) (nl : Nat) (nr : Nat) (x : Int32) (uu0 : Unit) : va_W := [(o, .inr (7, [.int rf, .int (nI nl), .int (nI nr), .ref ed, .ref ol, .ref ri, .ref bu, .ref bv, .ref dq, .ref pq, .ref lq, .ref wf, .ref tq, .ref yq, .ref rq, .ref fq, .ref gl, .ref gr, .ref rc, .ref wq]))]
abbrev p_X7_isLeft (rf : Int32) (nl : Nat) (nr : Nat) (x : Int32) (rr0 : Int32) (uu0 : Unit) : Prop := rr0 = bI ((ix nl x).isSome) ∧ (True)
set_option maxHeartbeats 4000000 in
set_option maxRecDepth 100000 in
theorem c_X7_isLeft (l : Launch) (D : va_G) (aI aJ aZ : ClassId) (o ed ol ri bu bv dq pq lq wf tq yq rq fq gl gr rc wq : Nat) (rf : Int32) (nl : Nat) (nr : Nat) (x : Int32)  (sz : Nat) : Met l yX7_isLeft wsX7_isLeft ({ frames := 0, cells := 0, slots := 0, locals := 0 }) (va_Pc [.ref o, .int x] (jI D (jT aI aJ aZ) [(o, .inr (7, [.int rf, .int (nI nl), .int (nI nr), .ref ed, .ref ol, .ref ri, .ref bu, .ref bv, .ref dq, .ref pq, .ref lq, .ref wf, .ref tq, .ref yq, .ref rq, .ref fq, .ref gl, .ref gr, .ref rc, .ref wq]))] sz)) (va_Qi (S := Unit) (p_X7_isLeft rf nl nr x) (fun u t => jO D (jT aI aJ aZ) (va_A [(o, .inr (7, [.int rf, .int (nI nl), .int (nI nr), .ref ed, .ref ol, .ref ri, .ref bu, .ref bv, .ref dq, .ref pq, .ref lq, .ref wf, .ref tq, .ref yq, .ref rq, .ref fq, .ref gl, .ref gr, .ref rc, .ref wq]))] sz) (w_X7_isLeft_o aI aJ aZ o ed ol ri bu bv dq pq lq wf tq yq rq fq gl gr rc wq rf nl nr x u) t) (va_A [(o, .inr (7, [.int rf, .int (nI nl), .int (nI nr), .ref ed, .ref ol, .ref ri, .ref bu, .ref bv, .ref dq, .ref pq, .ref lq, .ref wf, .ref tq, .ref yq, .ref rq, .ref fq, .ref gl, .ref gr, .ref rc, .ref wq]))] sz)) 0 0 (va_A [(o, .inr (7, [.int rf, .int (nI nl), .int (nI nr), .ref ed, .ref ol, .ref ri, .ref bu, .ref bv, .ref dq, .ref pq, .ref lq, .ref wf, .ref tq, .ref yq, .ref rq, .ref fq, .ref gl, .ref gr, .ref rc, .ref wq]))] sz) := by
  refine j_of (Qc := fun A => va_Qi (S := Unit) (p_X7_isLeft rf nl nr x) (fun u t => jO D (jT aI aJ aZ) A (w_X7_isLeft_o aI aJ aZ o ed ol ri bu bv dq pq lq wf tq yq rq fq gl gr rc wq rf nl nr x u) t) A) (own := RX7) (nm := "isLeft") (by decide +kernel) rfl rfl rfl (Nat.le_of_ble_eq_true rfl) ?_
  intro p e s m below meth c A ls H locs C hP hD hS hl
  obtain ⟨hx, hb, hml, hown, hts, hK, hA, hlocks, hr, hn, hN⟩ := id C
  have L_67 := hts (.fieldLink RX7 67 "PhasehallModel" "lefts" "I") (List.mem_of_getElem? (i := 1) rfl)
  have inX7 : ∀ w ∈ wsX70, w ∈ wsX7_isLeft := fun _ h => List.mem_cons_of_mem _ (List.mem_append_right _ h)
  have hl : lv_has ls 2 [(0, .ref o), (1, .int x)] := hl
  refine lv_iload_n hx hb dX7_isLeft_0 rfl (lv_at hl 1 rfl) ?_
  refine lv_if_lt (tgt := 16) hx hb dX7_isLeft_1 (by decide) (fun c_1 => ?_) (fun c_1 => ?_)
  · refine lv_iconst (v := nI 0) hx hb dX7_isLeft_16 (by decide) ?_
    have eV : nI 0 = bI ((ix nl x).isSome) := by rw [ix_neg c_1]; rfl
    exact j_zret (w1 := fun u => w_X7_isLeft_o aI aJ aZ o ed ol ri bu bv dq pq lq wf tq yq rq fq gl gr rc wq rf nl nr x u) (post := p_X7_isLeft rf nl nr x) C () ((ix nl x).isSome) eV hP hD hS ⟨rfl, trivial⟩ dX7_isLeft_17
  · refine lv_iload_n hx hb dX7_isLeft_4 rfl (lv_at hl 1 rfl) ?_
    refine lv_aload_n hx hb dX7_isLeft_5 rfl (lv_at hl 0 rfl) ?_
    refine va_get (D := D) (ci := 7) (v := .int (nI nl)) (C := RX7) (T := TX7) (N := 20) hx hb hts inX7 hown hK hP 0 rfl rfl 1 (by decide) L_67 (fun _ h9 => h9) rfl dX7_isLeft_6 ?_
    refine lv_icmp_ge (tgt := 16) hx hb dX7_isLeft_9 (by decide) (fun c_9 => ?_) (fun c_9 => ?_)
    · refine lv_iconst (v := nI 0) hx hb dX7_isLeft_16 (by decide) ?_
      have eV : nI 0 = bI ((ix nl x).isSome) := by rw [ix_big c_9]; rfl
      exact j_zret (w1 := fun u => w_X7_isLeft_o aI aJ aZ o ed ol ri bu bv dq pq lq wf tq yq rq fq gl gr rc wq rf nl nr x u) (post := p_X7_isLeft rf nl nr x) C () ((ix nl x).isSome) eV hP hD hS ⟨rfl, trivial⟩ dX7_isLeft_17
    · refine lv_iconst (v := nI 1) hx hb dX7_isLeft_12 (by decide) ?_
      refine lv_goto (tgt := 17) hx hb dX7_isLeft_13 (by decide) ?_
      have eV : nI 1 = bI ((ix nl x).isSome) := by obtain ⟨kk9, hk9⟩ := ix_in c_1 c_9; rw [hk9]; rfl
      exact j_zret (w1 := fun u => w_X7_isLeft_o aI aJ aZ o ed ol ri bu bv dq pq lq wf tq yq rq fq gl gr rc wq rf nl nr x u) (post := p_X7_isLeft rf nl nr x) C () ((ix nl x).isSome) eV hP hD hS ⟨rfl, trivial⟩ dX7_isLeft_17
abbrev w_X7_isRight_o (aI aJ aZ : ClassId) (o ed ol ri bu bv dq pq lq wf tq yq rq fq gl gr rc wq : Nat) (rf : Int32) (nl : Nat) (nr : Nat) (x : Int32) (uu0 : Unit) : va_W := [(o, .inr (7, [.int rf, .int (nI nl), .int (nI nr), .ref ed, .ref ol, .ref ri, .ref bu, .ref bv, .ref dq, .ref pq, .ref lq, .ref wf, .ref tq, .ref yq, .ref rq, .ref fq, .ref gl, .ref gr, .ref rc, .ref wq]))]
abbrev p_X7_isRight (rf : Int32) (nl : Nat) (nr : Nat) (x : Int32) (rr0 : Int32) (uu0 : Unit) : Prop := rr0 = bI ((ix nr x).isSome) ∧ (True)
set_option maxHeartbeats 4000000 in
set_option maxRecDepth 100000 in
theorem c_X7_isRight (l : Launch) (D : va_G) (aI aJ aZ : ClassId) (o ed ol ri bu bv dq pq lq wf tq yq rq fq gl gr rc wq : Nat) (rf : Int32) (nl : Nat) (nr : Nat) (x : Int32)  (sz : Nat) : Met l yX7_isRight wsX7_isRight ({ frames := 0, cells := 0, slots := 0, locals := 0 }) (va_Pc [.ref o, .int x] (jI D (jT aI aJ aZ) [(o, .inr (7, [.int rf, .int (nI nl), .int (nI nr), .ref ed, .ref ol, .ref ri, .ref bu, .ref bv, .ref dq, .ref pq, .ref lq, .ref wf, .ref tq, .ref yq, .ref rq, .ref fq, .ref gl, .ref gr, .ref rc, .ref wq]))] sz)) (va_Qi (S := Unit) (p_X7_isRight rf nl nr x) (fun u t => jO D (jT aI aJ aZ) (va_A [(o, .inr (7, [.int rf, .int (nI nl), .int (nI nr), .ref ed, .ref ol, .ref ri, .ref bu, .ref bv, .ref dq, .ref pq, .ref lq, .ref wf, .ref tq, .ref yq, .ref rq, .ref fq, .ref gl, .ref gr, .ref rc, .ref wq]))] sz) (w_X7_isRight_o aI aJ aZ o ed ol ri bu bv dq pq lq wf tq yq rq fq gl gr rc wq rf nl nr x u) t) (va_A [(o, .inr (7, [.int rf, .int (nI nl), .int (nI nr), .ref ed, .ref ol, .ref ri, .ref bu, .ref bv, .ref dq, .ref pq, .ref lq, .ref wf, .ref tq, .ref yq, .ref rq, .ref fq, .ref gl, .ref gr, .ref rc, .ref wq]))] sz)) 0 0 (va_A [(o, .inr (7, [.int rf, .int (nI nl), .int (nI nr), .ref ed, .ref ol, .ref ri, .ref bu, .ref bv, .ref dq, .ref pq, .ref lq, .ref wf, .ref tq, .ref yq, .ref rq, .ref fq, .ref gl, .ref gr, .ref rc, .ref wq]))] sz) := by
  refine j_of (Qc := fun A => va_Qi (S := Unit) (p_X7_isRight rf nl nr x) (fun u t => jO D (jT aI aJ aZ) A (w_X7_isRight_o aI aJ aZ o ed ol ri bu bv dq pq lq wf tq yq rq fq gl gr rc wq rf nl nr x u) t) A) (own := RX7) (nm := "isRight") (by decide +kernel) rfl rfl rfl (Nat.le_of_ble_eq_true rfl) ?_
  intro p e s m below meth c A ls H locs C hP hD hS hl
  obtain ⟨hx, hb, hml, hown, hts, hK, hA, hlocks, hr, hn, hN⟩ := id C
  have L_70 := hts (.fieldLink RX7 70 "PhasehallModel" "rights" "I") (List.mem_of_getElem? (i := 1) rfl)
  have inX7 : ∀ w ∈ wsX70, w ∈ wsX7_isRight := fun _ h => List.mem_cons_of_mem _ (List.mem_append_right _ h)
  have hl : lv_has ls 2 [(0, .ref o), (1, .int x)] := hl
  refine lv_iload_n hx hb dX7_isRight_0 rfl (lv_at hl 1 rfl) ?_
  refine lv_if_lt (tgt := 16) hx hb dX7_isRight_1 (by decide) (fun c_1 => ?_) (fun c_1 => ?_)
  · refine lv_iconst (v := nI 0) hx hb dX7_isRight_16 (by decide) ?_
    have eV : nI 0 = bI ((ix nr x).isSome) := by rw [ix_neg c_1]; rfl
    exact j_zret (w1 := fun u => w_X7_isRight_o aI aJ aZ o ed ol ri bu bv dq pq lq wf tq yq rq fq gl gr rc wq rf nl nr x u) (post := p_X7_isRight rf nl nr x) C () ((ix nr x).isSome) eV hP hD hS ⟨rfl, trivial⟩ dX7_isRight_17
  · refine lv_iload_n hx hb dX7_isRight_4 rfl (lv_at hl 1 rfl) ?_
    refine lv_aload_n hx hb dX7_isRight_5 rfl (lv_at hl 0 rfl) ?_
    refine va_get (D := D) (ci := 7) (v := .int (nI nr)) (C := RX7) (T := TX7) (N := 20) hx hb hts inX7 hown hK hP 0 rfl rfl 2 (by decide) L_70 (fun _ h9 => h9) rfl dX7_isRight_6 ?_
    refine lv_icmp_ge (tgt := 16) hx hb dX7_isRight_9 (by decide) (fun c_9 => ?_) (fun c_9 => ?_)
    · refine lv_iconst (v := nI 0) hx hb dX7_isRight_16 (by decide) ?_
      have eV : nI 0 = bI ((ix nr x).isSome) := by rw [ix_big c_9]; rfl
      exact j_zret (w1 := fun u => w_X7_isRight_o aI aJ aZ o ed ol ri bu bv dq pq lq wf tq yq rq fq gl gr rc wq rf nl nr x u) (post := p_X7_isRight rf nl nr x) C () ((ix nr x).isSome) eV hP hD hS ⟨rfl, trivial⟩ dX7_isRight_17
    · refine lv_iconst (v := nI 1) hx hb dX7_isRight_12 (by decide) ?_
      refine lv_goto (tgt := 17) hx hb dX7_isRight_13 (by decide) ?_
      have eV : nI 1 = bI ((ix nr x).isSome) := by obtain ⟨kk9, hk9⟩ := ix_in c_1 c_9; rw [hk9]; rfl
      exact j_zret (w1 := fun u => w_X7_isRight_o aI aJ aZ o ed ol ri bu bv dq pq lq wf tq yq rq fq gl gr rc wq rf nl nr x u) (post := p_X7_isRight rf nl nr x) C () ((ix nr x).isSome) eV hP hD hS ⟨rfl, trivial⟩ dX7_isRight_17
abbrev w_X7_isEdge_o (aI aJ aZ : ClassId) (o ed ol ri bu bv dq pq lq wf tq yq rq fq gl gr rc wq : Nat) (rf : Int32) (nl : Nat) (nr : Nat) (E : Nat → Nat → Bool) (x : Nat) (y : Nat) (uu0 : Unit) : va_W := [(o, .inr (7, [.int rf, .int (nI nl), .int (nI nr), .ref ed, .ref ol, .ref ri, .ref bu, .ref bv, .ref dq, .ref pq, .ref lq, .ref wf, .ref tq, .ref yq, .ref rq, .ref fq, .ref gl, .ref gr, .ref rc, .ref wq])), (ed, .inl (aZ, 144, (.inl (fun kk => bI ((tb E) kk)))))]
abbrev p_X7_isEdge (rf : Int32) (nl : Nat) (nr : Nat) (E : Nat → Nat → Bool) (x : Nat) (y : Nat) (rr0 : Int32) (uu0 : Unit) : Prop := rr0 = bI (E x y) ∧ (True)
set_option maxHeartbeats 4000000 in
set_option maxRecDepth 100000 in
theorem c_X7_isEdge (l : Launch) (D : va_G) (aI aJ aZ : ClassId) (o ed ol ri bu bv dq pq lq wf tq yq rq fq gl gr rc wq : Nat) (rf : Int32) (nl : Nat) (nr : Nat) (E : Nat → Nat → Bool) (x : Nat) (y : Nat) (hx1 : x < 12) (hy1 : y < 12) (sz : Nat) : Met l yX7_isEdge wsX7_isEdge ({ frames := 0, cells := 0, slots := 0, locals := 0 }) (va_Pc [.ref o, .int (nI x), .int (nI y)] (jI D (jT aI aJ aZ) [(o, .inr (7, [.int rf, .int (nI nl), .int (nI nr), .ref ed, .ref ol, .ref ri, .ref bu, .ref bv, .ref dq, .ref pq, .ref lq, .ref wf, .ref tq, .ref yq, .ref rq, .ref fq, .ref gl, .ref gr, .ref rc, .ref wq])), (ed, .inl (aZ, 144, (.inl (fun kk => bI ((tb E) kk)))))] sz)) (va_Qi (S := Unit) (p_X7_isEdge rf nl nr E x y) (fun u t => jO D (jT aI aJ aZ) (va_A [(o, .inr (7, [.int rf, .int (nI nl), .int (nI nr), .ref ed, .ref ol, .ref ri, .ref bu, .ref bv, .ref dq, .ref pq, .ref lq, .ref wf, .ref tq, .ref yq, .ref rq, .ref fq, .ref gl, .ref gr, .ref rc, .ref wq])), (ed, .inl (aZ, 144, (.inl (fun kk => bI ((tb E) kk)))))] sz) (w_X7_isEdge_o aI aJ aZ o ed ol ri bu bv dq pq lq wf tq yq rq fq gl gr rc wq rf nl nr E x y u) t) (va_A [(o, .inr (7, [.int rf, .int (nI nl), .int (nI nr), .ref ed, .ref ol, .ref ri, .ref bu, .ref bv, .ref dq, .ref pq, .ref lq, .ref wf, .ref tq, .ref yq, .ref rq, .ref fq, .ref gl, .ref gr, .ref rc, .ref wq])), (ed, .inl (aZ, 144, (.inl (fun kk => bI ((tb E) kk)))))] sz)) 0 0 (va_A [(o, .inr (7, [.int rf, .int (nI nl), .int (nI nr), .ref ed, .ref ol, .ref ri, .ref bu, .ref bv, .ref dq, .ref pq, .ref lq, .ref wf, .ref tq, .ref yq, .ref rq, .ref fq, .ref gl, .ref gr, .ref rc, .ref wq])), (ed, .inl (aZ, 144, (.inl (fun kk => bI ((tb E) kk)))))] sz) := by
  refine j_of (Qc := fun A => va_Qi (S := Unit) (p_X7_isEdge rf nl nr E x y) (fun u t => jO D (jT aI aJ aZ) A (w_X7_isEdge_o aI aJ aZ o ed ol ri bu bv dq pq lq wf tq yq rq fq gl gr rc wq rf nl nr E x y u) t) A) (own := RX7) (nm := "isEdge") (by decide +kernel) rfl rfl rfl (Nat.le_of_ble_eq_true rfl) ?_
  intro p e s m below meth c A ls H locs C hP hD hS hl
  obtain ⟨hx, hb, hml, hown, hts, hK, hA, hlocks, hr, hn, hN⟩ := id C
  have L_7 := hts (.fieldLink RX7 7 "PhasehallModel" "edge" "[Z") (List.mem_of_getElem? (i := 1) rfl)
  have inX7 : ∀ w ∈ wsX70, w ∈ wsX7_isEdge := fun _ h => List.mem_cons_of_mem _ (List.mem_append_right _ h)
  have hl : lv_has ls 3 [(0, .ref o), (1, .int (nI x)), (2, .int (nI y))] := hl
  refine lv_aload_n hx hb dX7_isEdge_0 rfl (lv_at hl 0 rfl) ?_
  refine va_get (D := D) (ci := 7) (v := .ref ed) (C := RX7) (T := TX7) (N := 20) hx hb hts inX7 hown hK hP 0 rfl rfl 3 (by decide) L_7 (fun _ h9 => h9) rfl dX7_isEdge_1 ?_
  refine lv_bipush (v := nI 12) hx hb dX7_isEdge_4 (by decide) ?_
  refine lv_iload_n hx hb dX7_isEdge_6 rfl (lv_at hl 1 rfl) ?_
  refine lv_imul hx hb dX7_isEdge_7 ?_
  refine j_topi (y := (nI (12 * x))) (pk_mul _ _) ?_
  refine lv_iload_n hx hb dX7_isEdge_8 rfl (lv_at hl 2 rfl) ?_
  refine lv_iadd hx hb dX7_isEdge_9 ?_
  refine j_topi (y := (nI ((12 * x) + y))) (nI_add _ _) ?_
  refine j_zald (v := bI (E x y)) hx hb hK hP 1 2 rfl rfl (by omega) (by omega) (congrArg bI (tb_at E hy1)) dX7_isEdge_10 ?_
  exact j_zret (w1 := fun u => w_X7_isEdge_o aI aJ aZ o ed ol ri bu bv dq pq lq wf tq yq rq fq gl gr rc wq rf nl nr E x y u) (post := p_X7_isEdge rf nl nr E x y) C () (E x y) rfl hP hD hS ⟨rfl, trivial⟩ dX7_isEdge_11
abbrev w_X7_addLeft_ok_o (aI aJ aZ : ClassId) (o ed ol ri bu bv dq pq lq wf tq yq rq fq gl gr rc wq : Nat) (rf : Int32) (nl : Nat) (nr : Nat) (uu0 : Unit) : va_W := [(o, .inr (7, [.int (nI 0), .int (nI (nl + 1)), .int (nI nr), .ref ed, .ref ol, .ref ri, .ref bu, .ref bv, .ref dq, .ref pq, .ref lq, .ref wf, .ref tq, .ref yq, .ref rq, .ref fq, .ref gl, .ref gr, .ref rc, .ref wq]))]
abbrev p_X7_addLeft_ok (rf : Int32) (nl : Nat) (nr : Nat) (rr0 : Int32) (uu0 : Unit) : Prop := rr0 = nI nl ∧ (True)
set_option maxHeartbeats 4000000 in
set_option maxRecDepth 100000 in
theorem c_X7_addLeft_ok (l : Launch) (D : va_G) (aI aJ aZ : ClassId) (o ed ol ri bu bv dq pq lq wf tq yq rq fq gl gr rc wq : Nat) (rf : Int32) (nl : Nat) (nr : Nat) (hnl : nl ≤ 12) (hnr : nr ≤ 12) (hlt : nl < 12) (sz : Nat) : Met l yX7_addLeft wsX7_addLeft ({ frames := 1, cells := 0, slots := 0, locals := 21 }) (va_Pc [.ref o] (jI D (jT aI aJ aZ) [(o, .inr (7, [.int rf, .int (nI nl), .int (nI nr), .ref ed, .ref ol, .ref ri, .ref bu, .ref bv, .ref dq, .ref pq, .ref lq, .ref wf, .ref tq, .ref yq, .ref rq, .ref fq, .ref gl, .ref gr, .ref rc, .ref wq]))] sz)) (va_Qi (S := Unit) (p_X7_addLeft_ok rf nl nr) (fun u t => jO D (jT aI aJ aZ) (va_A [(o, .inr (7, [.int rf, .int (nI nl), .int (nI nr), .ref ed, .ref ol, .ref ri, .ref bu, .ref bv, .ref dq, .ref pq, .ref lq, .ref wf, .ref tq, .ref yq, .ref rq, .ref fq, .ref gl, .ref gr, .ref rc, .ref wq]))] sz) (w_X7_addLeft_ok_o aI aJ aZ o ed ol ri bu bv dq pq lq wf tq yq rq fq gl gr rc wq rf nl nr u) t) (va_A [(o, .inr (7, [.int rf, .int (nI nl), .int (nI nr), .ref ed, .ref ol, .ref ri, .ref bu, .ref bv, .ref dq, .ref pq, .ref lq, .ref wf, .ref tq, .ref yq, .ref rq, .ref fq, .ref gl, .ref gr, .ref rc, .ref wq]))] sz)) 0 0 (va_A [(o, .inr (7, [.int rf, .int (nI nl), .int (nI nr), .ref ed, .ref ol, .ref ri, .ref bu, .ref bv, .ref dq, .ref pq, .ref lq, .ref wf, .ref tq, .ref yq, .ref rq, .ref fq, .ref gl, .ref gr, .ref rc, .ref wq]))] sz) := by
  refine j_of (Qc := fun A => va_Qi (S := Unit) (p_X7_addLeft_ok rf nl nr) (fun u t => jO D (jT aI aJ aZ) A (w_X7_addLeft_ok_o aI aJ aZ o ed ol ri bu bv dq pq lq wf tq yq rq fq gl gr rc wq rf nl nr u) t) A) (own := RX7) (nm := "addLeft") (by decide +kernel) rfl rfl rfl (Nat.le_of_ble_eq_true rfl) ?_
  intro p e s m below meth c A ls H locs C hP hD hS hl
  obtain ⟨hx, hb, hml, hown, hts, hK, hA, hlocks, hr, hn, hN⟩ := id C
  have L_67 := hts (.fieldLink RX7 67 "PhasehallModel" "lefts" "I") (List.mem_of_getElem? (i := 1) rfl)
  have inX7 : ∀ w ∈ wsX70, w ∈ wsX7_addLeft := fun _ h => List.mem_cons_of_mem _ (List.mem_append_right _ h)
  have hl : lv_has ls 1 [(0, .ref o)] := hl
  refine lv_aload_n hx hb dX7_addLeft_0 rfl (lv_at hl 0 rfl) ?_
  refine lv_aload_n hx hb dX7_addLeft_1 rfl (lv_at hl 0 rfl) ?_
  refine va_get (D := D) (ci := 7) (v := .int (nI nl)) (C := RX7) (T := TX7) (N := 20) hx hb hts inX7 hown hK hP 0 rfl rfl 1 (by decide) L_67 (fun _ h9 => h9) rfl dX7_addLeft_2 ?_
  refine lv_bipush (v := nI 12) hx hb dX7_addLeft_5 (by decide) ?_
  refine lv_icmp_ne (tgt := 14) hx hb dX7_addLeft_7 (by decide) (fun c_7 => ?_) (fun c_7 => ?_)
  · rw [cv_eq (by omega) (by omega)] at c_7
    refine lv_iconst (v := nI 0) hx hb dX7_addLeft_14 (by decide) ?_
    refine j_calli (va_runV (As := [.int (nI 0)]) (rest := []) C.fix (c_X7_refused l D aI aJ aZ o ed ol ri bu bv dq pq lq wf tq yq rq fq gl gr rc wq rf nl nr 0 (show 0 < 2 ^ 31 from by first | omega | assumption | rfl | (simp_all; done)) H.size) (cwV 1 hts gX7_addLeft_X7_refused rfl rfl rfl (by decide +kernel) ⟨Nat.le_of_ble_eq_true rfl, Nat.le_of_ble_eq_true rfl⟩) (jPreV hN hK hP hD [0] rfl rfl (by decide) (ci := 7) (q0 := 0) rfl rfl) rfl rfl hl.1 rfl (lv_room (Nat.le_of_ble_eq_true rfl)) dX7_addLeft_15 ⟨Nat.zero_le _, Nat.zero_le _⟩) hA hP hD hS [0] [] (wr := []) rfl rfl (by decide) (by decide) (fun r_15 u_15 H locs q_15 hP hD hS => ?_)
    obtain ⟨rfl, -⟩ := q_15
    have hP : va_P D vwCl [(o, .inr (7, [.int (nI 0), .int (nI nl), .int (nI nr), .ref ed, .ref ol, .ref ri, .ref bu, .ref bv, .ref dq, .ref pq, .ref lq, .ref wf, .ref tq, .ref yq, .ref rq, .ref fq, .ref gl, .ref gr, .ref rc, .ref wq]))] H := hP
    have hD : va_D A [(o, .inr (7, [.int (nI 0), .int (nI nl), .int (nI nr), .ref ed, .ref ol, .ref ri, .ref bu, .ref bv, .ref dq, .ref pq, .ref lq, .ref wf, .ref tq, .ref yq, .ref rq, .ref fq, .ref gl, .ref gr, .ref rc, .ref wq]))] := hD
    refine j_topi (y := (bI false)) (rfl) ?_
    refine lv_if_eq (tgt := 23) hx hb dX7_addLeft_18 (by decide) (fun c_18 => ?_) (fun c_18 => ?_)
    · clear c_18
      refine lv_aload_n hx hb dX7_addLeft_23 rfl (lv_at hl 0 rfl) ?_
      refine lv_dup hx hb dX7_addLeft_24 rfl ?_
      refine va_get (D := D) (ci := 7) (v := .int (nI nl)) (C := RX7) (T := TX7) (N := 20) hx hb hts inX7 hown hK hP 0 rfl rfl 1 (by decide) L_67 (fun _ h9 => h9) rfl dX7_addLeft_25 ?_
      refine lv_iconst (v := nI 1) hx hb dX7_addLeft_28 (by decide) ?_
      refine lv_iadd hx hb dX7_addLeft_29 ?_
      refine j_topi (y := (nI (nl + 1))) (nI_add _ _) ?_
      refine va_put (D := D) (ci := 7) (v := .int (nI (nl + 1))) (ty := .int) (C := RX7) (T := TX7) (N := 20) hx hb hts inX7 tyX7 tyX7_ok nmX7 hown hK hP hD hS 0 rfl rfl 1 (by decide) L_67 (fun _ h9 => h9) rfl (by decide +kernel) rfl rfl (Nat.le_of_ble_eq_true rfl) dX7_addLeft_30 (fun H locs hP hD hS => ?_)
      have hP : va_P D vwCl [(o, .inr (7, [.int (nI 0), .int (nI (nl + 1)), .int (nI nr), .ref ed, .ref ol, .ref ri, .ref bu, .ref bv, .ref dq, .ref pq, .ref lq, .ref wf, .ref tq, .ref yq, .ref rq, .ref fq, .ref gl, .ref gr, .ref rc, .ref wq]))] H := hP
      have hD : va_D A [(o, .inr (7, [.int (nI 0), .int (nI (nl + 1)), .int (nI nr), .ref ed, .ref ol, .ref ri, .ref bu, .ref bv, .ref dq, .ref pq, .ref lq, .ref wf, .ref tq, .ref yq, .ref rq, .ref fq, .ref gl, .ref gr, .ref rc, .ref wq]))] := hD
      refine lv_aload_n hx hb dX7_addLeft_33 rfl (lv_at hl 0 rfl) ?_
      refine va_get (D := D) (ci := 7) (v := .int (nI (nl + 1))) (C := RX7) (T := TX7) (N := 20) hx hb hts inX7 hown hK hP 0 rfl rfl 1 (by decide) L_67 (fun _ h9 => h9) rfl dX7_addLeft_34 ?_
      refine lv_iconst (v := nI 1) hx hb dX7_addLeft_37 (by decide) ?_
      refine lv_isub hx hb dX7_addLeft_38 ?_
      refine j_topi (y := (nI nl)) (pk_sub (by omega)) ?_
      exact j_iret (w1 := fun u => w_X7_addLeft_ok_o aI aJ aZ o ed ol ri bu bv dq pq lq wf tq yq rq fq gl gr rc wq rf nl nr u) (post := p_X7_addLeft_ok rf nl nr) C () hP hD hS ⟨rfl, trivial⟩ dX7_addLeft_39
    · exact absurd c_18 (by decide)
  · rw [cv_eq (by omega) (by omega)] at c_7
    exact absurd c_7 (by omega)
abbrev w_X7_addLeft_no_o (aI aJ aZ : ClassId) (o ed ol ri bu bv dq pq lq wf tq yq rq fq gl gr rc wq : Nat) (rf : Int32) (nl : Nat) (nr : Nat) (uu0 : Unit) : va_W := [(o, .inr (7, [.int (nI 1), .int (nI nl), .int (nI nr), .ref ed, .ref ol, .ref ri, .ref bu, .ref bv, .ref dq, .ref pq, .ref lq, .ref wf, .ref tq, .ref yq, .ref rq, .ref fq, .ref gl, .ref gr, .ref rc, .ref wq]))]
abbrev p_X7_addLeft_no (rf : Int32) (nl : Nat) (nr : Nat) (rr0 : Int32) (uu0 : Unit) : Prop := rr0 = nI 0 ∧ (True)
set_option maxHeartbeats 4000000 in
set_option maxRecDepth 100000 in
theorem c_X7_addLeft_no (l : Launch) (D : va_G) (aI aJ aZ : ClassId) (o ed ol ri bu bv dq pq lq wf tq yq rq fq gl gr rc wq : Nat) (rf : Int32) (nl : Nat) (nr : Nat) (hnl : nl ≤ 12) (hnr : nr ≤ 12) (hlt : nl = 12) (sz : Nat) : Met l yX7_addLeft wsX7_addLeft ({ frames := 1, cells := 0, slots := 0, locals := 21 }) (va_Pc [.ref o] (jI D (jT aI aJ aZ) [(o, .inr (7, [.int rf, .int (nI nl), .int (nI nr), .ref ed, .ref ol, .ref ri, .ref bu, .ref bv, .ref dq, .ref pq, .ref lq, .ref wf, .ref tq, .ref yq, .ref rq, .ref fq, .ref gl, .ref gr, .ref rc, .ref wq]))] sz)) (va_Qi (S := Unit) (p_X7_addLeft_no rf nl nr) (fun u t => jO D (jT aI aJ aZ) (va_A [(o, .inr (7, [.int rf, .int (nI nl), .int (nI nr), .ref ed, .ref ol, .ref ri, .ref bu, .ref bv, .ref dq, .ref pq, .ref lq, .ref wf, .ref tq, .ref yq, .ref rq, .ref fq, .ref gl, .ref gr, .ref rc, .ref wq]))] sz) (w_X7_addLeft_no_o aI aJ aZ o ed ol ri bu bv dq pq lq wf tq yq rq fq gl gr rc wq rf nl nr u) t) (va_A [(o, .inr (7, [.int rf, .int (nI nl), .int (nI nr), .ref ed, .ref ol, .ref ri, .ref bu, .ref bv, .ref dq, .ref pq, .ref lq, .ref wf, .ref tq, .ref yq, .ref rq, .ref fq, .ref gl, .ref gr, .ref rc, .ref wq]))] sz)) 0 0 (va_A [(o, .inr (7, [.int rf, .int (nI nl), .int (nI nr), .ref ed, .ref ol, .ref ri, .ref bu, .ref bv, .ref dq, .ref pq, .ref lq, .ref wf, .ref tq, .ref yq, .ref rq, .ref fq, .ref gl, .ref gr, .ref rc, .ref wq]))] sz) := by
  refine j_of (Qc := fun A => va_Qi (S := Unit) (p_X7_addLeft_no rf nl nr) (fun u t => jO D (jT aI aJ aZ) A (w_X7_addLeft_no_o aI aJ aZ o ed ol ri bu bv dq pq lq wf tq yq rq fq gl gr rc wq rf nl nr u) t) A) (own := RX7) (nm := "addLeft") (by decide +kernel) rfl rfl rfl (Nat.le_of_ble_eq_true rfl) ?_
  intro p e s m below meth c A ls H locs C hP hD hS hl
  obtain ⟨hx, hb, hml, hown, hts, hK, hA, hlocks, hr, hn, hN⟩ := id C
  have L_67 := hts (.fieldLink RX7 67 "PhasehallModel" "lefts" "I") (List.mem_of_getElem? (i := 1) rfl)
  have inX7 : ∀ w ∈ wsX70, w ∈ wsX7_addLeft := fun _ h => List.mem_cons_of_mem _ (List.mem_append_right _ h)
  have hl : lv_has ls 1 [(0, .ref o)] := hl
  refine lv_aload_n hx hb dX7_addLeft_0 rfl (lv_at hl 0 rfl) ?_
  refine lv_aload_n hx hb dX7_addLeft_1 rfl (lv_at hl 0 rfl) ?_
  refine va_get (D := D) (ci := 7) (v := .int (nI nl)) (C := RX7) (T := TX7) (N := 20) hx hb hts inX7 hown hK hP 0 rfl rfl 1 (by decide) L_67 (fun _ h9 => h9) rfl dX7_addLeft_2 ?_
  refine lv_bipush (v := nI 12) hx hb dX7_addLeft_5 (by decide) ?_
  refine lv_icmp_ne (tgt := 14) hx hb dX7_addLeft_7 (by decide) (fun c_7 => ?_) (fun c_7 => ?_)
  · rw [cv_eq (by omega) (by omega)] at c_7
    exact absurd hlt c_7
  · rw [cv_eq (by omega) (by omega)] at c_7
    refine lv_iconst (v := nI 1) hx hb dX7_addLeft_10 (by decide) ?_
    refine lv_goto (tgt := 15) hx hb dX7_addLeft_11 (by decide) ?_
    refine j_calli (va_runV (As := [.int (nI 1)]) (rest := []) C.fix (c_X7_refused l D aI aJ aZ o ed ol ri bu bv dq pq lq wf tq yq rq fq gl gr rc wq rf nl nr 1 (show 1 < 2 ^ 31 from by first | omega | assumption | rfl | (simp_all; done)) H.size) (cwV 1 hts gX7_addLeft_X7_refused rfl rfl rfl (by decide +kernel) ⟨Nat.le_of_ble_eq_true rfl, Nat.le_of_ble_eq_true rfl⟩) (jPreV hN hK hP hD [0] rfl rfl (by decide) (ci := 7) (q0 := 0) rfl rfl) rfl rfl hl.1 rfl (lv_room (Nat.le_of_ble_eq_true rfl)) dX7_addLeft_15 ⟨Nat.zero_le _, Nat.zero_le _⟩) hA hP hD hS [0] [] (wr := []) rfl rfl (by decide) (by decide) (fun r_15 u_15 H locs q_15 hP hD hS => ?_)
    obtain ⟨rfl, -⟩ := q_15
    have hP : va_P D vwCl [(o, .inr (7, [.int (nI 1), .int (nI nl), .int (nI nr), .ref ed, .ref ol, .ref ri, .ref bu, .ref bv, .ref dq, .ref pq, .ref lq, .ref wf, .ref tq, .ref yq, .ref rq, .ref fq, .ref gl, .ref gr, .ref rc, .ref wq]))] H := hP
    have hD : va_D A [(o, .inr (7, [.int (nI 1), .int (nI nl), .int (nI nr), .ref ed, .ref ol, .ref ri, .ref bu, .ref bv, .ref dq, .ref pq, .ref lq, .ref wf, .ref tq, .ref yq, .ref rq, .ref fq, .ref gl, .ref gr, .ref rc, .ref wq]))] := hD
    refine j_topi (y := (bI true)) (rfl) ?_
    refine lv_if_eq (tgt := 23) hx hb dX7_addLeft_18 (by decide) (fun c_18 => ?_) (fun c_18 => ?_)
    · exact absurd c_18 (by decide)
    · clear c_18
      refine lv_iconst (v := nI 0) hx hb dX7_addLeft_21 (by decide) ?_
      exact j_iret (w1 := fun u => w_X7_addLeft_no_o aI aJ aZ o ed ol ri bu bv dq pq lq wf tq yq rq fq gl gr rc wq rf nl nr u) (post := p_X7_addLeft_no rf nl nr) C () hP hD hS ⟨rfl, trivial⟩ dX7_addLeft_22
abbrev w_X7_addRight_ok_o (aI aJ aZ : ClassId) (o ed ol ri bu bv dq pq lq wf tq yq rq fq gl gr rc wq : Nat) (rf : Int32) (nl : Nat) (nr : Nat) (uu0 : Unit) : va_W := [(o, .inr (7, [.int (nI 0), .int (nI nl), .int (nI (nr + 1)), .ref ed, .ref ol, .ref ri, .ref bu, .ref bv, .ref dq, .ref pq, .ref lq, .ref wf, .ref tq, .ref yq, .ref rq, .ref fq, .ref gl, .ref gr, .ref rc, .ref wq]))]
abbrev p_X7_addRight_ok (rf : Int32) (nl : Nat) (nr : Nat) (rr0 : Int32) (uu0 : Unit) : Prop := rr0 = nI nr ∧ (True)
set_option maxHeartbeats 4000000 in
set_option maxRecDepth 100000 in
theorem c_X7_addRight_ok (l : Launch) (D : va_G) (aI aJ aZ : ClassId) (o ed ol ri bu bv dq pq lq wf tq yq rq fq gl gr rc wq : Nat) (rf : Int32) (nl : Nat) (nr : Nat) (hnl : nl ≤ 12) (hnr : nr ≤ 12) (hlt : nr < 12) (sz : Nat) : Met l yX7_addRight wsX7_addRight ({ frames := 1, cells := 0, slots := 0, locals := 21 }) (va_Pc [.ref o] (jI D (jT aI aJ aZ) [(o, .inr (7, [.int rf, .int (nI nl), .int (nI nr), .ref ed, .ref ol, .ref ri, .ref bu, .ref bv, .ref dq, .ref pq, .ref lq, .ref wf, .ref tq, .ref yq, .ref rq, .ref fq, .ref gl, .ref gr, .ref rc, .ref wq]))] sz)) (va_Qi (S := Unit) (p_X7_addRight_ok rf nl nr) (fun u t => jO D (jT aI aJ aZ) (va_A [(o, .inr (7, [.int rf, .int (nI nl), .int (nI nr), .ref ed, .ref ol, .ref ri, .ref bu, .ref bv, .ref dq, .ref pq, .ref lq, .ref wf, .ref tq, .ref yq, .ref rq, .ref fq, .ref gl, .ref gr, .ref rc, .ref wq]))] sz) (w_X7_addRight_ok_o aI aJ aZ o ed ol ri bu bv dq pq lq wf tq yq rq fq gl gr rc wq rf nl nr u) t) (va_A [(o, .inr (7, [.int rf, .int (nI nl), .int (nI nr), .ref ed, .ref ol, .ref ri, .ref bu, .ref bv, .ref dq, .ref pq, .ref lq, .ref wf, .ref tq, .ref yq, .ref rq, .ref fq, .ref gl, .ref gr, .ref rc, .ref wq]))] sz)) 0 0 (va_A [(o, .inr (7, [.int rf, .int (nI nl), .int (nI nr), .ref ed, .ref ol, .ref ri, .ref bu, .ref bv, .ref dq, .ref pq, .ref lq, .ref wf, .ref tq, .ref yq, .ref rq, .ref fq, .ref gl, .ref gr, .ref rc, .ref wq]))] sz) := by
  refine j_of (Qc := fun A => va_Qi (S := Unit) (p_X7_addRight_ok rf nl nr) (fun u t => jO D (jT aI aJ aZ) A (w_X7_addRight_ok_o aI aJ aZ o ed ol ri bu bv dq pq lq wf tq yq rq fq gl gr rc wq rf nl nr u) t) A) (own := RX7) (nm := "addRight") (by decide +kernel) rfl rfl rfl (Nat.le_of_ble_eq_true rfl) ?_
  intro p e s m below meth c A ls H locs C hP hD hS hl
  obtain ⟨hx, hb, hml, hown, hts, hK, hA, hlocks, hr, hn, hN⟩ := id C
  have L_70 := hts (.fieldLink RX7 70 "PhasehallModel" "rights" "I") (List.mem_of_getElem? (i := 1) rfl)
  have inX7 : ∀ w ∈ wsX70, w ∈ wsX7_addRight := fun _ h => List.mem_cons_of_mem _ (List.mem_append_right _ h)
  have hl : lv_has ls 1 [(0, .ref o)] := hl
  refine lv_aload_n hx hb dX7_addRight_0 rfl (lv_at hl 0 rfl) ?_
  refine lv_aload_n hx hb dX7_addRight_1 rfl (lv_at hl 0 rfl) ?_
  refine va_get (D := D) (ci := 7) (v := .int (nI nr)) (C := RX7) (T := TX7) (N := 20) hx hb hts inX7 hown hK hP 0 rfl rfl 2 (by decide) L_70 (fun _ h9 => h9) rfl dX7_addRight_2 ?_
  refine lv_bipush (v := nI 12) hx hb dX7_addRight_5 (by decide) ?_
  refine lv_icmp_ne (tgt := 14) hx hb dX7_addRight_7 (by decide) (fun c_7 => ?_) (fun c_7 => ?_)
  · rw [cv_eq (by omega) (by omega)] at c_7
    refine lv_iconst (v := nI 0) hx hb dX7_addRight_14 (by decide) ?_
    refine j_calli (va_runV (As := [.int (nI 0)]) (rest := []) C.fix (c_X7_refused l D aI aJ aZ o ed ol ri bu bv dq pq lq wf tq yq rq fq gl gr rc wq rf nl nr 0 (show 0 < 2 ^ 31 from by first | omega | assumption | rfl | (simp_all; done)) H.size) (cwV 1 hts gX7_addRight_X7_refused rfl rfl rfl (by decide +kernel) ⟨Nat.le_of_ble_eq_true rfl, Nat.le_of_ble_eq_true rfl⟩) (jPreV hN hK hP hD [0] rfl rfl (by decide) (ci := 7) (q0 := 0) rfl rfl) rfl rfl hl.1 rfl (lv_room (Nat.le_of_ble_eq_true rfl)) dX7_addRight_15 ⟨Nat.zero_le _, Nat.zero_le _⟩) hA hP hD hS [0] [] (wr := []) rfl rfl (by decide) (by decide) (fun r_15 u_15 H locs q_15 hP hD hS => ?_)
    obtain ⟨rfl, -⟩ := q_15
    have hP : va_P D vwCl [(o, .inr (7, [.int (nI 0), .int (nI nl), .int (nI nr), .ref ed, .ref ol, .ref ri, .ref bu, .ref bv, .ref dq, .ref pq, .ref lq, .ref wf, .ref tq, .ref yq, .ref rq, .ref fq, .ref gl, .ref gr, .ref rc, .ref wq]))] H := hP
    have hD : va_D A [(o, .inr (7, [.int (nI 0), .int (nI nl), .int (nI nr), .ref ed, .ref ol, .ref ri, .ref bu, .ref bv, .ref dq, .ref pq, .ref lq, .ref wf, .ref tq, .ref yq, .ref rq, .ref fq, .ref gl, .ref gr, .ref rc, .ref wq]))] := hD
    refine j_topi (y := (bI false)) (rfl) ?_
    refine lv_if_eq (tgt := 23) hx hb dX7_addRight_18 (by decide) (fun c_18 => ?_) (fun c_18 => ?_)
    · clear c_18
      refine lv_aload_n hx hb dX7_addRight_23 rfl (lv_at hl 0 rfl) ?_
      refine lv_dup hx hb dX7_addRight_24 rfl ?_
      refine va_get (D := D) (ci := 7) (v := .int (nI nr)) (C := RX7) (T := TX7) (N := 20) hx hb hts inX7 hown hK hP 0 rfl rfl 2 (by decide) L_70 (fun _ h9 => h9) rfl dX7_addRight_25 ?_
      refine lv_iconst (v := nI 1) hx hb dX7_addRight_28 (by decide) ?_
      refine lv_iadd hx hb dX7_addRight_29 ?_
      refine j_topi (y := (nI (nr + 1))) (nI_add _ _) ?_
      refine va_put (D := D) (ci := 7) (v := .int (nI (nr + 1))) (ty := .int) (C := RX7) (T := TX7) (N := 20) hx hb hts inX7 tyX7 tyX7_ok nmX7 hown hK hP hD hS 0 rfl rfl 2 (by decide) L_70 (fun _ h9 => h9) rfl (by decide +kernel) rfl rfl (Nat.le_of_ble_eq_true rfl) dX7_addRight_30 (fun H locs hP hD hS => ?_)
      have hP : va_P D vwCl [(o, .inr (7, [.int (nI 0), .int (nI nl), .int (nI (nr + 1)), .ref ed, .ref ol, .ref ri, .ref bu, .ref bv, .ref dq, .ref pq, .ref lq, .ref wf, .ref tq, .ref yq, .ref rq, .ref fq, .ref gl, .ref gr, .ref rc, .ref wq]))] H := hP
      have hD : va_D A [(o, .inr (7, [.int (nI 0), .int (nI nl), .int (nI (nr + 1)), .ref ed, .ref ol, .ref ri, .ref bu, .ref bv, .ref dq, .ref pq, .ref lq, .ref wf, .ref tq, .ref yq, .ref rq, .ref fq, .ref gl, .ref gr, .ref rc, .ref wq]))] := hD
      refine lv_aload_n hx hb dX7_addRight_33 rfl (lv_at hl 0 rfl) ?_
      refine va_get (D := D) (ci := 7) (v := .int (nI (nr + 1))) (C := RX7) (T := TX7) (N := 20) hx hb hts inX7 hown hK hP 0 rfl rfl 2 (by decide) L_70 (fun _ h9 => h9) rfl dX7_addRight_34 ?_
      refine lv_iconst (v := nI 1) hx hb dX7_addRight_37 (by decide) ?_
      refine lv_isub hx hb dX7_addRight_38 ?_
      refine j_topi (y := (nI nr)) (pk_sub (by omega)) ?_
      exact j_iret (w1 := fun u => w_X7_addRight_ok_o aI aJ aZ o ed ol ri bu bv dq pq lq wf tq yq rq fq gl gr rc wq rf nl nr u) (post := p_X7_addRight_ok rf nl nr) C () hP hD hS ⟨rfl, trivial⟩ dX7_addRight_39
    · exact absurd c_18 (by decide)
  · rw [cv_eq (by omega) (by omega)] at c_7
    exact absurd c_7 (by omega)
abbrev w_X7_addRight_no_o (aI aJ aZ : ClassId) (o ed ol ri bu bv dq pq lq wf tq yq rq fq gl gr rc wq : Nat) (rf : Int32) (nl : Nat) (nr : Nat) (uu0 : Unit) : va_W := [(o, .inr (7, [.int (nI 1), .int (nI nl), .int (nI nr), .ref ed, .ref ol, .ref ri, .ref bu, .ref bv, .ref dq, .ref pq, .ref lq, .ref wf, .ref tq, .ref yq, .ref rq, .ref fq, .ref gl, .ref gr, .ref rc, .ref wq]))]
abbrev p_X7_addRight_no (rf : Int32) (nl : Nat) (nr : Nat) (rr0 : Int32) (uu0 : Unit) : Prop := rr0 = nI 0 ∧ (True)
set_option maxHeartbeats 4000000 in
set_option maxRecDepth 100000 in
theorem c_X7_addRight_no (l : Launch) (D : va_G) (aI aJ aZ : ClassId) (o ed ol ri bu bv dq pq lq wf tq yq rq fq gl gr rc wq : Nat) (rf : Int32) (nl : Nat) (nr : Nat) (hnl : nl ≤ 12) (hnr : nr ≤ 12) (hlt : nr = 12) (sz : Nat) : Met l yX7_addRight wsX7_addRight ({ frames := 1, cells := 0, slots := 0, locals := 21 }) (va_Pc [.ref o] (jI D (jT aI aJ aZ) [(o, .inr (7, [.int rf, .int (nI nl), .int (nI nr), .ref ed, .ref ol, .ref ri, .ref bu, .ref bv, .ref dq, .ref pq, .ref lq, .ref wf, .ref tq, .ref yq, .ref rq, .ref fq, .ref gl, .ref gr, .ref rc, .ref wq]))] sz)) (va_Qi (S := Unit) (p_X7_addRight_no rf nl nr) (fun u t => jO D (jT aI aJ aZ) (va_A [(o, .inr (7, [.int rf, .int (nI nl), .int (nI nr), .ref ed, .ref ol, .ref ri, .ref bu, .ref bv, .ref dq, .ref pq, .ref lq, .ref wf, .ref tq, .ref yq, .ref rq, .ref fq, .ref gl, .ref gr, .ref rc, .ref wq]))] sz) (w_X7_addRight_no_o aI aJ aZ o ed ol ri bu bv dq pq lq wf tq yq rq fq gl gr rc wq rf nl nr u) t) (va_A [(o, .inr (7, [.int rf, .int (nI nl), .int (nI nr), .ref ed, .ref ol, .ref ri, .ref bu, .ref bv, .ref dq, .ref pq, .ref lq, .ref wf, .ref tq, .ref yq, .ref rq, .ref fq, .ref gl, .ref gr, .ref rc, .ref wq]))] sz)) 0 0 (va_A [(o, .inr (7, [.int rf, .int (nI nl), .int (nI nr), .ref ed, .ref ol, .ref ri, .ref bu, .ref bv, .ref dq, .ref pq, .ref lq, .ref wf, .ref tq, .ref yq, .ref rq, .ref fq, .ref gl, .ref gr, .ref rc, .ref wq]))] sz) := by
  refine j_of (Qc := fun A => va_Qi (S := Unit) (p_X7_addRight_no rf nl nr) (fun u t => jO D (jT aI aJ aZ) A (w_X7_addRight_no_o aI aJ aZ o ed ol ri bu bv dq pq lq wf tq yq rq fq gl gr rc wq rf nl nr u) t) A) (own := RX7) (nm := "addRight") (by decide +kernel) rfl rfl rfl (Nat.le_of_ble_eq_true rfl) ?_
  intro p e s m below meth c A ls H locs C hP hD hS hl
  obtain ⟨hx, hb, hml, hown, hts, hK, hA, hlocks, hr, hn, hN⟩ := id C
  have L_70 := hts (.fieldLink RX7 70 "PhasehallModel" "rights" "I") (List.mem_of_getElem? (i := 1) rfl)
  have inX7 : ∀ w ∈ wsX70, w ∈ wsX7_addRight := fun _ h => List.mem_cons_of_mem _ (List.mem_append_right _ h)
  have hl : lv_has ls 1 [(0, .ref o)] := hl
  refine lv_aload_n hx hb dX7_addRight_0 rfl (lv_at hl 0 rfl) ?_
  refine lv_aload_n hx hb dX7_addRight_1 rfl (lv_at hl 0 rfl) ?_
  refine va_get (D := D) (ci := 7) (v := .int (nI nr)) (C := RX7) (T := TX7) (N := 20) hx hb hts inX7 hown hK hP 0 rfl rfl 2 (by decide) L_70 (fun _ h9 => h9) rfl dX7_addRight_2 ?_
  refine lv_bipush (v := nI 12) hx hb dX7_addRight_5 (by decide) ?_
  refine lv_icmp_ne (tgt := 14) hx hb dX7_addRight_7 (by decide) (fun c_7 => ?_) (fun c_7 => ?_)
  · rw [cv_eq (by omega) (by omega)] at c_7
    exact absurd hlt c_7
  · rw [cv_eq (by omega) (by omega)] at c_7
    refine lv_iconst (v := nI 1) hx hb dX7_addRight_10 (by decide) ?_
    refine lv_goto (tgt := 15) hx hb dX7_addRight_11 (by decide) ?_
    refine j_calli (va_runV (As := [.int (nI 1)]) (rest := []) C.fix (c_X7_refused l D aI aJ aZ o ed ol ri bu bv dq pq lq wf tq yq rq fq gl gr rc wq rf nl nr 1 (show 1 < 2 ^ 31 from by first | omega | assumption | rfl | (simp_all; done)) H.size) (cwV 1 hts gX7_addRight_X7_refused rfl rfl rfl (by decide +kernel) ⟨Nat.le_of_ble_eq_true rfl, Nat.le_of_ble_eq_true rfl⟩) (jPreV hN hK hP hD [0] rfl rfl (by decide) (ci := 7) (q0 := 0) rfl rfl) rfl rfl hl.1 rfl (lv_room (Nat.le_of_ble_eq_true rfl)) dX7_addRight_15 ⟨Nat.zero_le _, Nat.zero_le _⟩) hA hP hD hS [0] [] (wr := []) rfl rfl (by decide) (by decide) (fun r_15 u_15 H locs q_15 hP hD hS => ?_)
    obtain ⟨rfl, -⟩ := q_15
    have hP : va_P D vwCl [(o, .inr (7, [.int (nI 1), .int (nI nl), .int (nI nr), .ref ed, .ref ol, .ref ri, .ref bu, .ref bv, .ref dq, .ref pq, .ref lq, .ref wf, .ref tq, .ref yq, .ref rq, .ref fq, .ref gl, .ref gr, .ref rc, .ref wq]))] H := hP
    have hD : va_D A [(o, .inr (7, [.int (nI 1), .int (nI nl), .int (nI nr), .ref ed, .ref ol, .ref ri, .ref bu, .ref bv, .ref dq, .ref pq, .ref lq, .ref wf, .ref tq, .ref yq, .ref rq, .ref fq, .ref gl, .ref gr, .ref rc, .ref wq]))] := hD
    refine j_topi (y := (bI true)) (rfl) ?_
    refine lv_if_eq (tgt := 23) hx hb dX7_addRight_18 (by decide) (fun c_18 => ?_) (fun c_18 => ?_)
    · exact absurd c_18 (by decide)
    · clear c_18
      refine lv_iconst (v := nI 0) hx hb dX7_addRight_21 (by decide) ?_
      exact j_iret (w1 := fun u => w_X7_addRight_no_o aI aJ aZ o ed ol ri bu bv dq pq lq wf tq yq rq fq gl gr rc wq rf nl nr u) (post := p_X7_addRight_no rf nl nr) C () hP hD hS ⟨rfl, trivial⟩ dX7_addRight_22
abbrev w_X7_lefts_o (aI aJ aZ : ClassId) (o ed ol ri bu bv dq pq lq wf tq yq rq fq gl gr rc wq : Nat) (rf : Int32) (nl : Nat) (nr : Nat) (uu0 : Unit) : va_W := [(o, .inr (7, [.int (nI 0), .int (nI nl), .int (nI nr), .ref ed, .ref ol, .ref ri, .ref bu, .ref bv, .ref dq, .ref pq, .ref lq, .ref wf, .ref tq, .ref yq, .ref rq, .ref fq, .ref gl, .ref gr, .ref rc, .ref wq]))]
abbrev p_X7_lefts (rf : Int32) (nl : Nat) (nr : Nat) (rr0 : Int32) (uu0 : Unit) : Prop := rr0 = nI nl ∧ (True)
set_option maxHeartbeats 4000000 in
set_option maxRecDepth 100000 in
theorem c_X7_lefts (l : Launch) (D : va_G) (aI aJ aZ : ClassId) (o ed ol ri bu bv dq pq lq wf tq yq rq fq gl gr rc wq : Nat) (rf : Int32) (nl : Nat) (nr : Nat)  (sz : Nat) : Met l yX7_lefts wsX7_lefts ({ frames := 1, cells := 0, slots := 0, locals := 21 }) (va_Pc [.ref o] (jI D (jT aI aJ aZ) [(o, .inr (7, [.int rf, .int (nI nl), .int (nI nr), .ref ed, .ref ol, .ref ri, .ref bu, .ref bv, .ref dq, .ref pq, .ref lq, .ref wf, .ref tq, .ref yq, .ref rq, .ref fq, .ref gl, .ref gr, .ref rc, .ref wq]))] sz)) (va_Qi (S := Unit) (p_X7_lefts rf nl nr) (fun u t => jO D (jT aI aJ aZ) (va_A [(o, .inr (7, [.int rf, .int (nI nl), .int (nI nr), .ref ed, .ref ol, .ref ri, .ref bu, .ref bv, .ref dq, .ref pq, .ref lq, .ref wf, .ref tq, .ref yq, .ref rq, .ref fq, .ref gl, .ref gr, .ref rc, .ref wq]))] sz) (w_X7_lefts_o aI aJ aZ o ed ol ri bu bv dq pq lq wf tq yq rq fq gl gr rc wq rf nl nr u) t) (va_A [(o, .inr (7, [.int rf, .int (nI nl), .int (nI nr), .ref ed, .ref ol, .ref ri, .ref bu, .ref bv, .ref dq, .ref pq, .ref lq, .ref wf, .ref tq, .ref yq, .ref rq, .ref fq, .ref gl, .ref gr, .ref rc, .ref wq]))] sz)) 0 0 (va_A [(o, .inr (7, [.int rf, .int (nI nl), .int (nI nr), .ref ed, .ref ol, .ref ri, .ref bu, .ref bv, .ref dq, .ref pq, .ref lq, .ref wf, .ref tq, .ref yq, .ref rq, .ref fq, .ref gl, .ref gr, .ref rc, .ref wq]))] sz) := by
  refine j_of (Qc := fun A => va_Qi (S := Unit) (p_X7_lefts rf nl nr) (fun u t => jO D (jT aI aJ aZ) A (w_X7_lefts_o aI aJ aZ o ed ol ri bu bv dq pq lq wf tq yq rq fq gl gr rc wq rf nl nr u) t) A) (own := RX7) (nm := "lefts") (by decide +kernel) rfl rfl rfl (Nat.le_of_ble_eq_true rfl) ?_
  intro p e s m below meth c A ls H locs C hP hD hS hl
  obtain ⟨hx, hb, hml, hown, hts, hK, hA, hlocks, hr, hn, hN⟩ := id C
  have L_67 := hts (.fieldLink RX7 67 "PhasehallModel" "lefts" "I") (List.mem_of_getElem? (i := 1) rfl)
  have inX7 : ∀ w ∈ wsX70, w ∈ wsX7_lefts := fun _ h => List.mem_cons_of_mem _ (List.mem_append_right _ h)
  have hl : lv_has ls 1 [(0, .ref o)] := hl
  refine lv_aload_n hx hb dX7_lefts_0 rfl (lv_at hl 0 rfl) ?_
  refine lv_aload_n hx hb dX7_lefts_1 rfl (lv_at hl 0 rfl) ?_
  refine va_get (D := D) (ci := 7) (v := .int (nI nl)) (C := RX7) (T := TX7) (N := 20) hx hb hts inX7 hown hK hP 0 rfl rfl 1 (by decide) L_67 (fun _ h9 => h9) rfl dX7_lefts_2 ?_
  refine j_calli (va_runV (As := [.int (nI nl)]) (rest := []) C.fix (c_X7_fine l D aI aJ aZ o ed ol ri bu bv dq pq lq wf tq yq rq fq gl gr rc wq rf nl nr (nI nl)  H.size) (cwV 1 hts gX7_lefts_X7_fine rfl rfl rfl (by decide +kernel) ⟨Nat.le_of_ble_eq_true rfl, Nat.le_of_ble_eq_true rfl⟩) (jPreV hN hK hP hD [0] rfl rfl (by decide) (ci := 7) (q0 := 0) rfl rfl) rfl rfl hl.1 rfl (lv_room (Nat.le_of_ble_eq_true rfl)) dX7_lefts_5 ⟨Nat.zero_le _, Nat.zero_le _⟩) hA hP hD hS [0] [] (wr := []) rfl rfl (by decide) (by decide) (fun r_5 u_5 H locs q_5 hP hD hS => ?_)
  obtain ⟨rfl, -⟩ := q_5
  have hP : va_P D vwCl [(o, .inr (7, [.int (nI 0), .int (nI nl), .int (nI nr), .ref ed, .ref ol, .ref ri, .ref bu, .ref bv, .ref dq, .ref pq, .ref lq, .ref wf, .ref tq, .ref yq, .ref rq, .ref fq, .ref gl, .ref gr, .ref rc, .ref wq]))] H := hP
  have hD : va_D A [(o, .inr (7, [.int (nI 0), .int (nI nl), .int (nI nr), .ref ed, .ref ol, .ref ri, .ref bu, .ref bv, .ref dq, .ref pq, .ref lq, .ref wf, .ref tq, .ref yq, .ref rq, .ref fq, .ref gl, .ref gr, .ref rc, .ref wq]))] := hD
  exact j_iret (w1 := fun u => w_X7_lefts_o aI aJ aZ o ed ol ri bu bv dq pq lq wf tq yq rq fq gl gr rc wq rf nl nr u) (post := p_X7_lefts rf nl nr) C () hP hD hS ⟨rfl, trivial⟩ dX7_lefts_8
abbrev w_X7_rights_o (aI aJ aZ : ClassId) (o ed ol ri bu bv dq pq lq wf tq yq rq fq gl gr rc wq : Nat) (rf : Int32) (nl : Nat) (nr : Nat) (uu0 : Unit) : va_W := [(o, .inr (7, [.int (nI 0), .int (nI nl), .int (nI nr), .ref ed, .ref ol, .ref ri, .ref bu, .ref bv, .ref dq, .ref pq, .ref lq, .ref wf, .ref tq, .ref yq, .ref rq, .ref fq, .ref gl, .ref gr, .ref rc, .ref wq]))]
abbrev p_X7_rights (rf : Int32) (nl : Nat) (nr : Nat) (rr0 : Int32) (uu0 : Unit) : Prop := rr0 = nI nr ∧ (True)
set_option maxHeartbeats 4000000 in
set_option maxRecDepth 100000 in
theorem c_X7_rights (l : Launch) (D : va_G) (aI aJ aZ : ClassId) (o ed ol ri bu bv dq pq lq wf tq yq rq fq gl gr rc wq : Nat) (rf : Int32) (nl : Nat) (nr : Nat)  (sz : Nat) : Met l yX7_rights wsX7_rights ({ frames := 1, cells := 0, slots := 0, locals := 21 }) (va_Pc [.ref o] (jI D (jT aI aJ aZ) [(o, .inr (7, [.int rf, .int (nI nl), .int (nI nr), .ref ed, .ref ol, .ref ri, .ref bu, .ref bv, .ref dq, .ref pq, .ref lq, .ref wf, .ref tq, .ref yq, .ref rq, .ref fq, .ref gl, .ref gr, .ref rc, .ref wq]))] sz)) (va_Qi (S := Unit) (p_X7_rights rf nl nr) (fun u t => jO D (jT aI aJ aZ) (va_A [(o, .inr (7, [.int rf, .int (nI nl), .int (nI nr), .ref ed, .ref ol, .ref ri, .ref bu, .ref bv, .ref dq, .ref pq, .ref lq, .ref wf, .ref tq, .ref yq, .ref rq, .ref fq, .ref gl, .ref gr, .ref rc, .ref wq]))] sz) (w_X7_rights_o aI aJ aZ o ed ol ri bu bv dq pq lq wf tq yq rq fq gl gr rc wq rf nl nr u) t) (va_A [(o, .inr (7, [.int rf, .int (nI nl), .int (nI nr), .ref ed, .ref ol, .ref ri, .ref bu, .ref bv, .ref dq, .ref pq, .ref lq, .ref wf, .ref tq, .ref yq, .ref rq, .ref fq, .ref gl, .ref gr, .ref rc, .ref wq]))] sz)) 0 0 (va_A [(o, .inr (7, [.int rf, .int (nI nl), .int (nI nr), .ref ed, .ref ol, .ref ri, .ref bu, .ref bv, .ref dq, .ref pq, .ref lq, .ref wf, .ref tq, .ref yq, .ref rq, .ref fq, .ref gl, .ref gr, .ref rc, .ref wq]))] sz) := by
  refine j_of (Qc := fun A => va_Qi (S := Unit) (p_X7_rights rf nl nr) (fun u t => jO D (jT aI aJ aZ) A (w_X7_rights_o aI aJ aZ o ed ol ri bu bv dq pq lq wf tq yq rq fq gl gr rc wq rf nl nr u) t) A) (own := RX7) (nm := "rights") (by decide +kernel) rfl rfl rfl (Nat.le_of_ble_eq_true rfl) ?_
  intro p e s m below meth c A ls H locs C hP hD hS hl
  obtain ⟨hx, hb, hml, hown, hts, hK, hA, hlocks, hr, hn, hN⟩ := id C
  have L_70 := hts (.fieldLink RX7 70 "PhasehallModel" "rights" "I") (List.mem_of_getElem? (i := 1) rfl)
  have inX7 : ∀ w ∈ wsX70, w ∈ wsX7_rights := fun _ h => List.mem_cons_of_mem _ (List.mem_append_right _ h)
  have hl : lv_has ls 1 [(0, .ref o)] := hl
  refine lv_aload_n hx hb dX7_rights_0 rfl (lv_at hl 0 rfl) ?_
  refine lv_aload_n hx hb dX7_rights_1 rfl (lv_at hl 0 rfl) ?_
  refine va_get (D := D) (ci := 7) (v := .int (nI nr)) (C := RX7) (T := TX7) (N := 20) hx hb hts inX7 hown hK hP 0 rfl rfl 2 (by decide) L_70 (fun _ h9 => h9) rfl dX7_rights_2 ?_
  refine j_calli (va_runV (As := [.int (nI nr)]) (rest := []) C.fix (c_X7_fine l D aI aJ aZ o ed ol ri bu bv dq pq lq wf tq yq rq fq gl gr rc wq rf nl nr (nI nr)  H.size) (cwV 1 hts gX7_rights_X7_fine rfl rfl rfl (by decide +kernel) ⟨Nat.le_of_ble_eq_true rfl, Nat.le_of_ble_eq_true rfl⟩) (jPreV hN hK hP hD [0] rfl rfl (by decide) (ci := 7) (q0 := 0) rfl rfl) rfl rfl hl.1 rfl (lv_room (Nat.le_of_ble_eq_true rfl)) dX7_rights_5 ⟨Nat.zero_le _, Nat.zero_le _⟩) hA hP hD hS [0] [] (wr := []) rfl rfl (by decide) (by decide) (fun r_5 u_5 H locs q_5 hP hD hS => ?_)
  obtain ⟨rfl, -⟩ := q_5
  have hP : va_P D vwCl [(o, .inr (7, [.int (nI 0), .int (nI nl), .int (nI nr), .ref ed, .ref ol, .ref ri, .ref bu, .ref bv, .ref dq, .ref pq, .ref lq, .ref wf, .ref tq, .ref yq, .ref rq, .ref fq, .ref gl, .ref gr, .ref rc, .ref wq]))] H := hP
  have hD : va_D A [(o, .inr (7, [.int (nI 0), .int (nI nl), .int (nI nr), .ref ed, .ref ol, .ref ri, .ref bu, .ref bv, .ref dq, .ref pq, .ref lq, .ref wf, .ref tq, .ref yq, .ref rq, .ref fq, .ref gl, .ref gr, .ref rc, .ref wq]))] := hD
  exact j_iret (w1 := fun u => w_X7_rights_o aI aJ aZ o ed ol ri bu bv dq pq lq wf tq yq rq fq gl gr rc wq rf nl nr u) (post := p_X7_rights rf nl nr) C () hP hD hS ⟨rfl, trivial⟩ dX7_rights_8
abbrev w_X7_edges_o (aI aJ aZ : ClassId) (o ed ol ri bu bv dq pq lq wf tq yq rq fq gl gr rc wq : Nat) (rf : Int32) (nl : Nat) (nr : Nat) (E : Nat → Nat → Bool) (uu0 : Unit) : va_W := [(o, .inr (7, [.int (nI 0), .int (nI nl), .int (nI nr), .ref ed, .ref ol, .ref ri, .ref bu, .ref bv, .ref dq, .ref pq, .ref lq, .ref wf, .ref tq, .ref yq, .ref rq, .ref fq, .ref gl, .ref gr, .ref rc, .ref wq])), (ed, .inl (aZ, 144, (.inl (fun kk => bI ((tb E) kk)))))]
abbrev p_X7_edges (rf : Int32) (nl : Nat) (nr : Nat) (E : Nat → Nat → Bool) (rr0 : Int32) (uu0 : Unit) : Prop := rr0 = nI (cnt 144 (tb E)) ∧ (True)
set_option maxHeartbeats 4000000 in
set_option maxRecDepth 100000 in
theorem c_X7_edges (l : Launch) (D : va_G) (aI aJ aZ : ClassId) (o ed ol ri bu bv dq pq lq wf tq yq rq fq gl gr rc wq : Nat) (rf : Int32) (nl : Nat) (nr : Nat) (E : Nat → Nat → Bool)  (sz : Nat) : Met l yX7_edges wsX7_edges ({ frames := 1, cells := 0, slots := 0, locals := 21 }) (va_Pc [.ref o] (jI D (jT aI aJ aZ) [(o, .inr (7, [.int rf, .int (nI nl), .int (nI nr), .ref ed, .ref ol, .ref ri, .ref bu, .ref bv, .ref dq, .ref pq, .ref lq, .ref wf, .ref tq, .ref yq, .ref rq, .ref fq, .ref gl, .ref gr, .ref rc, .ref wq])), (ed, .inl (aZ, 144, (.inl (fun kk => bI ((tb E) kk)))))] sz)) (va_Qi (S := Unit) (p_X7_edges rf nl nr E) (fun u t => jO D (jT aI aJ aZ) (va_A [(o, .inr (7, [.int rf, .int (nI nl), .int (nI nr), .ref ed, .ref ol, .ref ri, .ref bu, .ref bv, .ref dq, .ref pq, .ref lq, .ref wf, .ref tq, .ref yq, .ref rq, .ref fq, .ref gl, .ref gr, .ref rc, .ref wq])), (ed, .inl (aZ, 144, (.inl (fun kk => bI ((tb E) kk)))))] sz) (w_X7_edges_o aI aJ aZ o ed ol ri bu bv dq pq lq wf tq yq rq fq gl gr rc wq rf nl nr E u) t) (va_A [(o, .inr (7, [.int rf, .int (nI nl), .int (nI nr), .ref ed, .ref ol, .ref ri, .ref bu, .ref bv, .ref dq, .ref pq, .ref lq, .ref wf, .ref tq, .ref yq, .ref rq, .ref fq, .ref gl, .ref gr, .ref rc, .ref wq])), (ed, .inl (aZ, 144, (.inl (fun kk => bI ((tb E) kk)))))] sz)) 0 0 (va_A [(o, .inr (7, [.int rf, .int (nI nl), .int (nI nr), .ref ed, .ref ol, .ref ri, .ref bu, .ref bv, .ref dq, .ref pq, .ref lq, .ref wf, .ref tq, .ref yq, .ref rq, .ref fq, .ref gl, .ref gr, .ref rc, .ref wq])), (ed, .inl (aZ, 144, (.inl (fun kk => bI ((tb E) kk)))))] sz) := by
  refine j_of (Qc := fun A => va_Qi (S := Unit) (p_X7_edges rf nl nr E) (fun u t => jO D (jT aI aJ aZ) A (w_X7_edges_o aI aJ aZ o ed ol ri bu bv dq pq lq wf tq yq rq fq gl gr rc wq rf nl nr E u) t) A) (own := RX7) (nm := "edges") (by decide +kernel) rfl rfl rfl (Nat.le_of_ble_eq_true rfl) ?_
  intro p e s m below meth c A ls H locs C hP hD hS hl
  obtain ⟨hx, hb, hml, hown, hts, hK, hA, hlocks, hr, hn, hN⟩ := id C
  have L_7 := hts (.fieldLink RX7 7 "PhasehallModel" "edge" "[Z") (List.mem_of_getElem? (i := 1) rfl)
  have inX7 : ∀ w ∈ wsX70, w ∈ wsX7_edges := fun _ h => List.mem_cons_of_mem _ (List.mem_append_right _ h)
  have key : ∀ N : Nat, (∀ (i : Nat) (H : Heap) (locs : List Loc) (ls : Array Slot), (145 - i) < N → (i ≤ 144) → va_P D vwCl [(o, .inr (7, [.int rf, .int (nI nl), .int (nI nr), .ref ed, .ref ol, .ref ri, .ref bu, .ref bv, .ref dq, .ref pq, .ref lq, .ref wf, .ref tq, .ref yq, .ref rq, .ref fq, .ref gl, .ref gr, .ref rc, .ref wq])), (ed, .inl (aZ, 144, (.inl (fun kk => bI ((tb E) kk)))))] H → va_D A [(o, .inr (7, [.int rf, .int (nI nl), .int (nI nr), .ref ed, .ref ol, .ref ri, .ref bu, .ref bv, .ref dq, .ref pq, .ref lq, .ref wf, .ref tq, .ref yq, .ref rq, .ref fq, .ref gl, .ref gr, .ref rc, .ref wq])), (ed, .inl (aZ, 144, (.inl (fun kk => bI ((tb E) kk)))))] → va_S A s.heap H locs → lv_has ls 3 [(0, .ref o), (1, .int (nI (cnt i (tb E)))), (2, .int (nI i))] → W p l e ({ frames := 1, cells := 0, slots := 0, locals := 21 }) s m ([.ref o] : List Value).toArray below meth c H locs 0 0 (MQ below (va_Qi (S := Unit) (p_X7_edges rf nl nr E) (fun u t => jO D (jT aI aJ aZ) A (w_X7_edges_o aI aJ aZ o ed ol ri bu bv dq pq lq wf tq yq rq fq gl gr rc wq rf nl nr E u) t) A) ([.ref o] : List Value).toArray s 0 0 A) (F0 m 4 ls [])) := by
    intro N
    induction N with
    | zero => exact fun _ _ _ _ h => absurd h (Nat.not_lt_zero _)
    | succ N ih =>
      have ih4 := ih
      intro i H locs ls hmeas hi hP hD hS hl
      refine lv_iload_n hx hb dX7_edges_4 rfl (lv_at hl 2 rfl) ?_
      refine lv_sipush (v := nI 144) hx hb dX7_edges_5 (by decide) ?_
      refine lv_icmp_ge (tgt := 34) hx hb dX7_edges_8 (by decide) (fun c_8 => ?_) (fun c_8 => ?_)
      · rw [cv_le (by omega) (by omega)] at c_8
        refine lv_aload_n hx hb dX7_edges_34 rfl (lv_at hl 0 rfl) ?_
        refine lv_iload_n hx hb dX7_edges_35 rfl (lv_at hl 1 rfl) ?_
        refine j_calli (va_runV (As := [.int (nI (cnt i (tb E)))]) (rest := []) C.fix (c_X7_fine l D aI aJ aZ o ed ol ri bu bv dq pq lq wf tq yq rq fq gl gr rc wq rf nl nr (nI (cnt i (tb E)))  H.size) (cwV 1 hts gX7_edges_X7_fine rfl rfl rfl (by decide +kernel) ⟨Nat.le_of_ble_eq_true rfl, Nat.le_of_ble_eq_true rfl⟩) (jPreV hN hK hP hD [0] rfl rfl (by decide) (ci := 7) (q0 := 0) rfl rfl) rfl rfl hl.1 rfl (lv_room (Nat.le_of_ble_eq_true rfl)) dX7_edges_36 ⟨Nat.zero_le _, Nat.zero_le _⟩) hA hP hD hS [0] [1] (wr := [(ed, .inl (aZ, 144, (.inl (fun kk => bI ((tb E) kk)))))]) rfl rfl (by decide) (by decide) (fun r_36 u_36 H locs q_36 hP hD hS => ?_)
        obtain ⟨rfl, -⟩ := q_36
        have hP : va_P D vwCl [(ed, .inl (aZ, 144, (.inl (fun kk => bI ((tb E) kk))))), (o, .inr (7, [.int (nI 0), .int (nI nl), .int (nI nr), .ref ed, .ref ol, .ref ri, .ref bu, .ref bv, .ref dq, .ref pq, .ref lq, .ref wf, .ref tq, .ref yq, .ref rq, .ref fq, .ref gl, .ref gr, .ref rc, .ref wq]))] H := hP
        have hD : va_D A [(ed, .inl (aZ, 144, (.inl (fun kk => bI ((tb E) kk))))), (o, .inr (7, [.int (nI 0), .int (nI nl), .int (nI nr), .ref ed, .ref ol, .ref ri, .ref bu, .ref bv, .ref dq, .ref pq, .ref lq, .ref wf, .ref tq, .ref yq, .ref rq, .ref fq, .ref gl, .ref gr, .ref rc, .ref wq]))] := hD
        have hP := hP.sub (ws' := [(o, .inr (7, [.int (nI 0), .int (nI nl), .int (nI nr), .ref ed, .ref ol, .ref ri, .ref bu, .ref bv, .ref dq, .ref pq, .ref lq, .ref wf, .ref tq, .ref yq, .ref rq, .ref fq, .ref gl, .ref gr, .ref rc, .ref wq])), (ed, .inl (aZ, 144, (.inl (fun kk => bI ((tb E) kk)))))]) [1, 0] rfl
        have hD := hD.sub (ws' := [(o, .inr (7, [.int (nI 0), .int (nI nl), .int (nI nr), .ref ed, .ref ol, .ref ri, .ref bu, .ref bv, .ref dq, .ref pq, .ref lq, .ref wf, .ref tq, .ref yq, .ref rq, .ref fq, .ref gl, .ref gr, .ref rc, .ref wq])), (ed, .inl (aZ, 144, (.inl (fun kk => bI ((tb E) kk)))))]) [1, 0] (by decide) rfl
        have eV : nI (cnt i (tb E)) = nI (cnt 144 (tb E)) := by rw [show i = 144 by omega]
        exact j_iret (w1 := fun u => w_X7_edges_o aI aJ aZ o ed ol ri bu bv dq pq lq wf tq yq rq fq gl gr rc wq rf nl nr E u) (post := p_X7_edges rf nl nr E) C () hP hD hS ⟨eV, trivial⟩ dX7_edges_39
      · rw [cv_le (by omega) (by omega)] at c_8
        refine lv_iload_n hx hb dX7_edges_11 rfl (lv_at hl 1 rfl) ?_
        refine lv_aload_n hx hb dX7_edges_12 rfl (lv_at hl 0 rfl) ?_
        refine va_get (D := D) (ci := 7) (v := .ref ed) (C := RX7) (T := TX7) (N := 20) hx hb hts inX7 hown hK hP 0 rfl rfl 3 (by decide) L_7 (fun _ h9 => h9) rfl dX7_edges_13 ?_
        refine lv_iload_n hx hb dX7_edges_16 rfl (lv_at hl 2 rfl) ?_
        refine j_zald (v := bI ((tb E) i)) hx hb hK hP 1 2 rfl rfl (by omega) (by omega) (rfl) dX7_edges_17 ?_
        refine lv_if_eq (tgt := 25) hx hb dX7_edges_18 (by decide) (fun c_18 => ?_) (fun c_18 => ?_)
        · rw [cv_b0] at c_18
          refine lv_iconst (v := nI 0) hx hb dX7_edges_25 (by decide) ?_
          refine lv_iadd hx hb dX7_edges_26 ?_
          refine j_topi (y := (nI (cnt i (tb E)))) (nI_add _ _) ?_
          refine lv_istore_n (lv' := [(1, .int (nI (cnt i (tb E)))), (0, .ref o), (2, .int (nI i))]) hx hb dX7_edges_27 rfl hl (by decide) rfl (fun ls hl => ?_)
          refine lv_iinc (v := nI (i + 1)) (lv' := [(2, .int (nI (i + 1))), (1, .int (nI (cnt i (tb E)))), (0, .ref o)]) hx hb dX7_edges_28 hl (k := 2) rfl (inc_nI i 1) (by decide) rfl (fun ls hl => ?_)
          refine lv_goto (tgt := 4) hx hb dX7_edges_31 (by decide) ?_
          have hl := lv_sub (l' := [(0, .ref o), (1, .int (nI (cnt i (tb E)))), (2, .int (nI (i + 1)))]) hl [2, 1, 0] rfl
          have hl := lv_re hl 1 rfl (show (.int (nI (cnt i (tb E))) : Value) = .int (nI (cnt (i + 1) (tb E))) from congrArg _ (by rw [cnt_no c_18]))
          have hl : lv_has ls 3 [(0, .ref o), (1, .int (nI (cnt (i + 1) (tb E)))), (2, .int (nI (i + 1)))] := hl
          exact ih4 (i + 1) _ _ _ (by omega) (show (i + 1) ≤ 144 from by first | omega | assumption | rfl | (simp_all; done)) hP hD hS hl
        · rw [cv_b0] at c_18
          rw [cv_nb] at c_18
          refine lv_iconst (v := nI 1) hx hb dX7_edges_21 (by decide) ?_
          refine lv_goto (tgt := 26) hx hb dX7_edges_22 (by decide) ?_
          refine lv_iadd hx hb dX7_edges_26 ?_
          refine j_topi (y := (nI ((cnt i (tb E)) + 1))) (nI_add _ _) ?_
          refine lv_istore_n (lv' := [(1, .int (nI ((cnt i (tb E)) + 1))), (0, .ref o), (2, .int (nI i))]) hx hb dX7_edges_27 rfl hl (by decide) rfl (fun ls hl => ?_)
          refine lv_iinc (v := nI (i + 1)) (lv' := [(2, .int (nI (i + 1))), (1, .int (nI ((cnt i (tb E)) + 1))), (0, .ref o)]) hx hb dX7_edges_28 hl (k := 2) rfl (inc_nI i 1) (by decide) rfl (fun ls hl => ?_)
          refine lv_goto (tgt := 4) hx hb dX7_edges_31 (by decide) ?_
          have hl := lv_sub (l' := [(0, .ref o), (1, .int (nI ((cnt i (tb E)) + 1))), (2, .int (nI (i + 1)))]) hl [2, 1, 0] rfl
          have hl := lv_re hl 1 rfl (show (.int (nI ((cnt i (tb E)) + 1)) : Value) = .int (nI (cnt (i + 1) (tb E))) from congrArg _ (by rw [cnt_yes c_18]))
          have hl : lv_has ls 3 [(0, .ref o), (1, .int (nI (cnt (i + 1) (tb E)))), (2, .int (nI (i + 1)))] := hl
          exact ih4 (i + 1) _ _ _ (by omega) (show (i + 1) ≤ 144 from by first | omega | assumption | rfl | (simp_all; done)) hP hD hS hl
  have hl : lv_has ls 3 [(0, .ref o)] := hl
  refine lv_iconst (v := nI 0) hx hb dX7_edges_0 (by decide) ?_
  refine lv_istore_n (lv' := [(1, .int (nI 0)), (0, .ref o)]) hx hb dX7_edges_1 rfl hl (by decide) rfl (fun ls hl => ?_)
  refine lv_iconst (v := nI 0) hx hb dX7_edges_2 (by decide) ?_
  refine lv_istore_n (lv' := [(2, .int (nI 0)), (1, .int (nI 0)), (0, .ref o)]) hx hb dX7_edges_3 rfl hl (by decide) rfl (fun ls hl => ?_)
  have hl := lv_sub (l' := [(0, .ref o), (1, .int (nI 0)), (2, .int (nI 0))]) hl [2, 1, 0] rfl
  have hl := lv_re hl 1 rfl (show (.int (nI 0) : Value) = .int (nI (cnt 0 (tb E))) from congrArg _ (by rfl))
  have hl : lv_has ls 3 [(0, .ref o), (1, .int (nI (cnt 0 (tb E)))), (2, .int (nI 0))] := hl
  exact (key _) 0 _ _ _ (Nat.lt_succ_self _) (show 0 ≤ 144 from by first | omega | assumption | rfl | (simp_all; done)) hP hD hS hl
abbrev w_X7_matched_o (aI aJ aZ : ClassId) (o ed ol ri bu bv dq pq lq wf tq yq rq fq gl gr rc wq : Nat) (rf : Int32) (nl : Nat) (nr : Nat) (mL : Nat → Option Nat) (uu0 : Unit) : va_W := [(o, .inr (7, [.int rf, .int (nI nl), .int (nI nr), .ref ed, .ref ol, .ref ri, .ref bu, .ref bv, .ref dq, .ref pq, .ref lq, .ref wf, .ref tq, .ref yq, .ref rq, .ref fq, .ref gl, .ref gr, .ref rc, .ref wq])), (ol, .inl (aI, 12, (.inl (fun kk => oI (mL kk)))))]
abbrev p_X7_matched (rf : Int32) (nl : Nat) (nr : Nat) (mL : Nat → Option Nat) (rr0 : Int32) (uu0 : Unit) : Prop := rr0 = nI (cnt nl (fun z => (mL z).isSome)) ∧ (True)
set_option maxHeartbeats 4000000 in
set_option maxRecDepth 100000 in
theorem c_X7_matched (l : Launch) (D : va_G) (aI aJ aZ : ClassId) (o ed ol ri bu bv dq pq lq wf tq yq rq fq gl gr rc wq : Nat) (rf : Int32) (nl : Nat) (nr : Nat) (mL : Nat → Option Nat) (hnl : nl ≤ 12) (hmL : ∀ k v, mL k = some v → v < 12) (sz : Nat) : Met l yX7_matched wsX7_matched ({ frames := 0, cells := 0, slots := 0, locals := 0 }) (va_Pc [.ref o] (jI D (jT aI aJ aZ) [(o, .inr (7, [.int rf, .int (nI nl), .int (nI nr), .ref ed, .ref ol, .ref ri, .ref bu, .ref bv, .ref dq, .ref pq, .ref lq, .ref wf, .ref tq, .ref yq, .ref rq, .ref fq, .ref gl, .ref gr, .ref rc, .ref wq])), (ol, .inl (aI, 12, (.inl (fun kk => oI (mL kk)))))] sz)) (va_Qi (S := Unit) (p_X7_matched rf nl nr mL) (fun u t => jO D (jT aI aJ aZ) (va_A [(o, .inr (7, [.int rf, .int (nI nl), .int (nI nr), .ref ed, .ref ol, .ref ri, .ref bu, .ref bv, .ref dq, .ref pq, .ref lq, .ref wf, .ref tq, .ref yq, .ref rq, .ref fq, .ref gl, .ref gr, .ref rc, .ref wq])), (ol, .inl (aI, 12, (.inl (fun kk => oI (mL kk)))))] sz) (w_X7_matched_o aI aJ aZ o ed ol ri bu bv dq pq lq wf tq yq rq fq gl gr rc wq rf nl nr mL u) t) (va_A [(o, .inr (7, [.int rf, .int (nI nl), .int (nI nr), .ref ed, .ref ol, .ref ri, .ref bu, .ref bv, .ref dq, .ref pq, .ref lq, .ref wf, .ref tq, .ref yq, .ref rq, .ref fq, .ref gl, .ref gr, .ref rc, .ref wq])), (ol, .inl (aI, 12, (.inl (fun kk => oI (mL kk)))))] sz)) 0 0 (va_A [(o, .inr (7, [.int rf, .int (nI nl), .int (nI nr), .ref ed, .ref ol, .ref ri, .ref bu, .ref bv, .ref dq, .ref pq, .ref lq, .ref wf, .ref tq, .ref yq, .ref rq, .ref fq, .ref gl, .ref gr, .ref rc, .ref wq])), (ol, .inl (aI, 12, (.inl (fun kk => oI (mL kk)))))] sz) := by
  refine j_of (Qc := fun A => va_Qi (S := Unit) (p_X7_matched rf nl nr mL) (fun u t => jO D (jT aI aJ aZ) A (w_X7_matched_o aI aJ aZ o ed ol ri bu bv dq pq lq wf tq yq rq fq gl gr rc wq rf nl nr mL u) t) A) (own := RX7) (nm := "matched") (by decide +kernel) rfl rfl rfl (Nat.le_of_ble_eq_true rfl) ?_
  intro p e s m below meth c A ls H locs C hP hD hS hl
  obtain ⟨hx, hb, hml, hown, hts, hK, hA, hlocks, hr, hn, hN⟩ := id C
  have L_13 := hts (.fieldLink RX7 13 "PhasehallModel" "ofLeft" "[I") (List.mem_of_getElem? (i := 2) rfl)
  have L_67 := hts (.fieldLink RX7 67 "PhasehallModel" "lefts" "I") (List.mem_of_getElem? (i := 1) rfl)
  have inX7 : ∀ w ∈ wsX70, w ∈ wsX7_matched := fun _ h => List.mem_cons_of_mem _ (List.mem_append_right _ h)
  have key : ∀ N : Nat, (∀ (i : Nat) (H : Heap) (locs : List Loc) (ls : Array Slot), (13 - i) < N → (i ≤ nl) → va_P D vwCl [(o, .inr (7, [.int rf, .int (nI nl), .int (nI nr), .ref ed, .ref ol, .ref ri, .ref bu, .ref bv, .ref dq, .ref pq, .ref lq, .ref wf, .ref tq, .ref yq, .ref rq, .ref fq, .ref gl, .ref gr, .ref rc, .ref wq])), (ol, .inl (aI, 12, (.inl (fun kk => oI (mL kk)))))] H → va_D A [(o, .inr (7, [.int rf, .int (nI nl), .int (nI nr), .ref ed, .ref ol, .ref ri, .ref bu, .ref bv, .ref dq, .ref pq, .ref lq, .ref wf, .ref tq, .ref yq, .ref rq, .ref fq, .ref gl, .ref gr, .ref rc, .ref wq])), (ol, .inl (aI, 12, (.inl (fun kk => oI (mL kk)))))] → va_S A s.heap H locs → lv_has ls 3 [(0, .ref o), (1, .int (nI (cnt i (fun z => (mL z).isSome)))), (2, .int (nI i))] → W p l e ({ frames := 0, cells := 0, slots := 0, locals := 0 }) s m ([.ref o] : List Value).toArray below meth c H locs 0 0 (MQ below (va_Qi (S := Unit) (p_X7_matched rf nl nr mL) (fun u t => jO D (jT aI aJ aZ) A (w_X7_matched_o aI aJ aZ o ed ol ri bu bv dq pq lq wf tq yq rq fq gl gr rc wq rf nl nr mL u) t) A) ([.ref o] : List Value).toArray s 0 0 A) (F0 m 4 ls [])) := by
    intro N
    induction N with
    | zero => exact fun _ _ _ _ h => absurd h (Nat.not_lt_zero _)
    | succ N ih =>
      have ih4 := ih
      intro i H locs ls hmeas hi hP hD hS hl
      refine lv_iload_n hx hb dX7_matched_4 rfl (lv_at hl 2 rfl) ?_
      refine lv_aload_n hx hb dX7_matched_5 rfl (lv_at hl 0 rfl) ?_
      refine va_get (D := D) (ci := 7) (v := .int (nI nl)) (C := RX7) (T := TX7) (N := 20) hx hb hts inX7 hown hK hP 0 rfl rfl 1 (by decide) L_67 (fun _ h9 => h9) rfl dX7_matched_6 ?_
      refine lv_icmp_ge (tgt := 36) hx hb dX7_matched_9 (by decide) (fun c_9 => ?_) (fun c_9 => ?_)
      · rw [cv_le (by omega) (by omega)] at c_9
        refine lv_iload_n hx hb dX7_matched_36 rfl (lv_at hl 1 rfl) ?_
        have eV : nI (cnt i (fun z => (mL z).isSome)) = nI (cnt nl (fun z => (mL z).isSome)) := by rw [show i = nl by omega]
        exact j_iret (w1 := fun u => w_X7_matched_o aI aJ aZ o ed ol ri bu bv dq pq lq wf tq yq rq fq gl gr rc wq rf nl nr mL u) (post := p_X7_matched rf nl nr mL) C () hP hD hS ⟨eV, trivial⟩ dX7_matched_37
      · rw [cv_le (by omega) (by omega)] at c_9
        refine lv_iload_n hx hb dX7_matched_12 rfl (lv_at hl 1 rfl) ?_
        refine lv_aload_n hx hb dX7_matched_13 rfl (lv_at hl 0 rfl) ?_
        refine va_get (D := D) (ci := 7) (v := .ref ol) (C := RX7) (T := TX7) (N := 20) hx hb hts inX7 hown hK hP 0 rfl rfl 4 (by decide) L_13 (fun _ h9 => h9) rfl dX7_matched_14 ?_
        refine lv_iload_n hx hb dX7_matched_17 rfl (lv_at hl 2 rfl) ?_
        refine j_iald (v := oI (mL i)) hx hb hK hP 1 0 rfl rfl (by omega) (by omega) (rfl) dX7_matched_18 ?_
        refine lv_iconst (v := oI none) hx hb dX7_matched_19 (by decide) ?_
        refine lv_icmp_ne (tgt := 27) hx hb dX7_matched_20 (by decide) (fun c_20 => ?_) (fun c_20 => ?_)
        · rw [show oI none = (-1 : Int32) from rfl, cv_oN (fun v hv => by have := hmL _ v hv; omega)] at c_20
          obtain ⟨v_20, hv_20⟩ := some_of c_20
          refine lv_iconst (v := nI 1) hx hb dX7_matched_27 (by decide) ?_
          refine lv_iadd hx hb dX7_matched_28 ?_
          refine j_topi (y := (nI ((cnt i (fun z => (mL z).isSome)) + 1))) (nI_add _ _) ?_
          refine lv_istore_n (lv' := [(1, .int (nI ((cnt i (fun z => (mL z).isSome)) + 1))), (0, .ref o), (2, .int (nI i))]) hx hb dX7_matched_29 rfl hl (by decide) rfl (fun ls hl => ?_)
          refine lv_iinc (v := nI (i + 1)) (lv' := [(2, .int (nI (i + 1))), (1, .int (nI ((cnt i (fun z => (mL z).isSome)) + 1))), (0, .ref o)]) hx hb dX7_matched_30 hl (k := 2) rfl (inc_nI i 1) (by decide) rfl (fun ls hl => ?_)
          refine lv_goto (tgt := 4) hx hb dX7_matched_33 (by decide) ?_
          have hl := lv_sub (l' := [(0, .ref o), (1, .int (nI ((cnt i (fun z => (mL z).isSome)) + 1))), (2, .int (nI (i + 1)))]) hl [2, 1, 0] rfl
          have hl := lv_re hl 1 rfl (show (.int (nI ((cnt i (fun z => (mL z).isSome)) + 1)) : Value) = .int (nI (cnt (i + 1) (fun z => (mL z).isSome))) from congrArg _ (by obtain ⟨y9, hy9⟩ := some_of c_20; rw [cnt_yes (by rw [hy9]; rfl)]))
          have hl : lv_has ls 3 [(0, .ref o), (1, .int (nI (cnt (i + 1) (fun z => (mL z).isSome)))), (2, .int (nI (i + 1)))] := hl
          exact ih4 (i + 1) _ _ _ (by omega) (show (i + 1) ≤ nl from by first | omega | assumption | rfl | (simp_all; done)) hP hD hS hl
        · rw [show oI none = (-1 : Int32) from rfl, cv_oN (fun v hv => by have := hmL _ v hv; omega)] at c_20
          refine lv_iconst (v := nI 0) hx hb dX7_matched_23 (by decide) ?_
          refine lv_goto (tgt := 28) hx hb dX7_matched_24 (by decide) ?_
          refine lv_iadd hx hb dX7_matched_28 ?_
          refine j_topi (y := (nI (cnt i (fun z => (mL z).isSome)))) (nI_add _ _) ?_
          refine lv_istore_n (lv' := [(1, .int (nI (cnt i (fun z => (mL z).isSome)))), (0, .ref o), (2, .int (nI i))]) hx hb dX7_matched_29 rfl hl (by decide) rfl (fun ls hl => ?_)
          refine lv_iinc (v := nI (i + 1)) (lv' := [(2, .int (nI (i + 1))), (1, .int (nI (cnt i (fun z => (mL z).isSome)))), (0, .ref o)]) hx hb dX7_matched_30 hl (k := 2) rfl (inc_nI i 1) (by decide) rfl (fun ls hl => ?_)
          refine lv_goto (tgt := 4) hx hb dX7_matched_33 (by decide) ?_
          have hl := lv_sub (l' := [(0, .ref o), (1, .int (nI (cnt i (fun z => (mL z).isSome)))), (2, .int (nI (i + 1)))]) hl [2, 1, 0] rfl
          have hl := lv_re hl 1 rfl (show (.int (nI (cnt i (fun z => (mL z).isSome))) : Value) = .int (nI (cnt (i + 1) (fun z => (mL z).isSome))) from congrArg _ (by rw [cnt_no (by rw [c_20]; rfl)]))
          have hl : lv_has ls 3 [(0, .ref o), (1, .int (nI (cnt (i + 1) (fun z => (mL z).isSome)))), (2, .int (nI (i + 1)))] := hl
          exact ih4 (i + 1) _ _ _ (by omega) (show (i + 1) ≤ nl from by first | omega | assumption | rfl | (simp_all; done)) hP hD hS hl
  have hl : lv_has ls 3 [(0, .ref o)] := hl
  refine lv_iconst (v := nI 0) hx hb dX7_matched_0 (by decide) ?_
  refine lv_istore_n (lv' := [(1, .int (nI 0)), (0, .ref o)]) hx hb dX7_matched_1 rfl hl (by decide) rfl (fun ls hl => ?_)
  refine lv_iconst (v := nI 0) hx hb dX7_matched_2 (by decide) ?_
  refine lv_istore_n (lv' := [(2, .int (nI 0)), (1, .int (nI 0)), (0, .ref o)]) hx hb dX7_matched_3 rfl hl (by decide) rfl (fun ls hl => ?_)
  have hl := lv_sub (l' := [(0, .ref o), (1, .int (nI 0)), (2, .int (nI 0))]) hl [2, 1, 0] rfl
  have hl := lv_re hl 1 rfl (show (.int (nI 0) : Value) = .int (nI (cnt 0 (fun z => (mL z).isSome))) from congrArg _ (by rfl))
  have hl : lv_has ls 3 [(0, .ref o), (1, .int (nI (cnt 0 (fun z => (mL z).isSome)))), (2, .int (nI 0))] := hl
  exact (key _) 0 _ _ _ (Nat.lt_succ_self _) (show 0 ≤ nl from by first | omega | assumption | rfl | (simp_all; done)) hP hD hS hl
abbrev w_X7_size_o (aI aJ aZ : ClassId) (o ed ol ri bu bv dq pq lq wf tq yq rq fq gl gr rc wq : Nat) (rf : Int32) (nl : Nat) (nr : Nat) (mL : Nat → Option Nat) (uu0 : Unit) : va_W := [(o, .inr (7, [.int (nI 0), .int (nI nl), .int (nI nr), .ref ed, .ref ol, .ref ri, .ref bu, .ref bv, .ref dq, .ref pq, .ref lq, .ref wf, .ref tq, .ref yq, .ref rq, .ref fq, .ref gl, .ref gr, .ref rc, .ref wq])), (ol, .inl (aI, 12, (.inl (fun kk => oI (mL kk)))))]
abbrev p_X7_size (rf : Int32) (nl : Nat) (nr : Nat) (mL : Nat → Option Nat) (rr0 : Int32) (uu0 : Unit) : Prop := rr0 = nI (cnt nl (fun z => (mL z).isSome)) ∧ (True)
set_option maxHeartbeats 4000000 in
set_option maxRecDepth 100000 in
theorem c_X7_size (l : Launch) (D : va_G) (aI aJ aZ : ClassId) (o ed ol ri bu bv dq pq lq wf tq yq rq fq gl gr rc wq : Nat) (rf : Int32) (nl : Nat) (nr : Nat) (mL : Nat → Option Nat) (hnl : nl ≤ 12) (hmL : ∀ k v, mL k = some v → v < 12) (sz : Nat) : Met l yX7_size wsX7_size ({ frames := 1, cells := 0, slots := 0, locals := 22 }) (va_Pc [.ref o] (jI D (jT aI aJ aZ) [(o, .inr (7, [.int rf, .int (nI nl), .int (nI nr), .ref ed, .ref ol, .ref ri, .ref bu, .ref bv, .ref dq, .ref pq, .ref lq, .ref wf, .ref tq, .ref yq, .ref rq, .ref fq, .ref gl, .ref gr, .ref rc, .ref wq])), (ol, .inl (aI, 12, (.inl (fun kk => oI (mL kk)))))] sz)) (va_Qi (S := Unit) (p_X7_size rf nl nr mL) (fun u t => jO D (jT aI aJ aZ) (va_A [(o, .inr (7, [.int rf, .int (nI nl), .int (nI nr), .ref ed, .ref ol, .ref ri, .ref bu, .ref bv, .ref dq, .ref pq, .ref lq, .ref wf, .ref tq, .ref yq, .ref rq, .ref fq, .ref gl, .ref gr, .ref rc, .ref wq])), (ol, .inl (aI, 12, (.inl (fun kk => oI (mL kk)))))] sz) (w_X7_size_o aI aJ aZ o ed ol ri bu bv dq pq lq wf tq yq rq fq gl gr rc wq rf nl nr mL u) t) (va_A [(o, .inr (7, [.int rf, .int (nI nl), .int (nI nr), .ref ed, .ref ol, .ref ri, .ref bu, .ref bv, .ref dq, .ref pq, .ref lq, .ref wf, .ref tq, .ref yq, .ref rq, .ref fq, .ref gl, .ref gr, .ref rc, .ref wq])), (ol, .inl (aI, 12, (.inl (fun kk => oI (mL kk)))))] sz)) 0 0 (va_A [(o, .inr (7, [.int rf, .int (nI nl), .int (nI nr), .ref ed, .ref ol, .ref ri, .ref bu, .ref bv, .ref dq, .ref pq, .ref lq, .ref wf, .ref tq, .ref yq, .ref rq, .ref fq, .ref gl, .ref gr, .ref rc, .ref wq])), (ol, .inl (aI, 12, (.inl (fun kk => oI (mL kk)))))] sz) := by
  refine j_of (Qc := fun A => va_Qi (S := Unit) (p_X7_size rf nl nr mL) (fun u t => jO D (jT aI aJ aZ) A (w_X7_size_o aI aJ aZ o ed ol ri bu bv dq pq lq wf tq yq rq fq gl gr rc wq rf nl nr mL u) t) A) (own := RX7) (nm := "size") (by decide +kernel) rfl rfl rfl (Nat.le_of_ble_eq_true rfl) ?_
  intro p e s m below meth c A ls H locs C hP hD hS hl
  obtain ⟨hx, hb, hml, hown, hts, hK, hA, hlocks, hr, hn, hN⟩ := id C
  have hl : lv_has ls 1 [(0, .ref o)] := hl
  refine lv_aload_n hx hb dX7_size_0 rfl (lv_at hl 0 rfl) ?_
  refine lv_aload_n hx hb dX7_size_1 rfl (lv_at hl 0 rfl) ?_
  refine j_calli (va_runV (As := []) (rest := [.ref o]) C.fix (c_X7_matched l D aI aJ aZ o ed ol ri bu bv dq pq lq wf tq yq rq fq gl gr rc wq rf nl nr mL (show nl ≤ 12 from by first | omega | assumption | rfl | (simp_all; done)) (show ∀ k v, mL k = some v → v < 12 from by exact hmL) H.size) (cwV 0 hts gX7_size_X7_matched rfl rfl rfl (by decide +kernel) ⟨Nat.le_of_ble_eq_true rfl, Nat.le_of_ble_eq_true rfl⟩) (jPreV hN hK hP hD [0, 1] rfl rfl (by decide) (ci := 7) (q0 := 0) rfl rfl) rfl rfl hl.1 rfl (lv_room (Nat.le_of_ble_eq_true rfl)) dX7_size_2 ⟨Nat.zero_le _, Nat.zero_le _⟩) hA hP hD hS [0, 1] [] (wr := []) rfl rfl (by decide) (by decide) (fun r_2 u_2 H locs q_2 hP hD hS => ?_)
  obtain ⟨rfl, -⟩ := q_2
  have hP : va_P D vwCl [(o, .inr (7, [.int rf, .int (nI nl), .int (nI nr), .ref ed, .ref ol, .ref ri, .ref bu, .ref bv, .ref dq, .ref pq, .ref lq, .ref wf, .ref tq, .ref yq, .ref rq, .ref fq, .ref gl, .ref gr, .ref rc, .ref wq])), (ol, .inl (aI, 12, (.inl (fun kk => oI (mL kk)))))] H := hP
  have hD : va_D A [(o, .inr (7, [.int rf, .int (nI nl), .int (nI nr), .ref ed, .ref ol, .ref ri, .ref bu, .ref bv, .ref dq, .ref pq, .ref lq, .ref wf, .ref tq, .ref yq, .ref rq, .ref fq, .ref gl, .ref gr, .ref rc, .ref wq])), (ol, .inl (aI, 12, (.inl (fun kk => oI (mL kk)))))] := hD
  refine j_calli (va_runV (As := [.int (nI (cnt nl (fun z => (mL z).isSome)))]) (rest := []) C.fix (c_X7_fine l D aI aJ aZ o ed ol ri bu bv dq pq lq wf tq yq rq fq gl gr rc wq rf nl nr (nI (cnt nl (fun z => (mL z).isSome)))  H.size) (cwV 1 hts gX7_size_X7_fine rfl rfl rfl (by decide +kernel) ⟨Nat.le_of_ble_eq_true rfl, Nat.le_of_ble_eq_true rfl⟩) (jPreV hN hK hP hD [0] rfl rfl (by decide) (ci := 7) (q0 := 0) rfl rfl) rfl rfl hl.1 rfl (lv_room (Nat.le_of_ble_eq_true rfl)) dX7_size_5 ⟨Nat.zero_le _, Nat.zero_le _⟩) hA hP hD hS [0] [1] (wr := [(ol, .inl (aI, 12, (.inl (fun kk => oI (mL kk)))))]) rfl rfl (by decide) (by decide) (fun r_5 u_5 H locs q_5 hP hD hS => ?_)
  obtain ⟨rfl, -⟩ := q_5
  have hP : va_P D vwCl [(ol, .inl (aI, 12, (.inl (fun kk => oI (mL kk))))), (o, .inr (7, [.int (nI 0), .int (nI nl), .int (nI nr), .ref ed, .ref ol, .ref ri, .ref bu, .ref bv, .ref dq, .ref pq, .ref lq, .ref wf, .ref tq, .ref yq, .ref rq, .ref fq, .ref gl, .ref gr, .ref rc, .ref wq]))] H := hP
  have hD : va_D A [(ol, .inl (aI, 12, (.inl (fun kk => oI (mL kk))))), (o, .inr (7, [.int (nI 0), .int (nI nl), .int (nI nr), .ref ed, .ref ol, .ref ri, .ref bu, .ref bv, .ref dq, .ref pq, .ref lq, .ref wf, .ref tq, .ref yq, .ref rq, .ref fq, .ref gl, .ref gr, .ref rc, .ref wq]))] := hD
  have hP := hP.sub (ws' := [(o, .inr (7, [.int (nI 0), .int (nI nl), .int (nI nr), .ref ed, .ref ol, .ref ri, .ref bu, .ref bv, .ref dq, .ref pq, .ref lq, .ref wf, .ref tq, .ref yq, .ref rq, .ref fq, .ref gl, .ref gr, .ref rc, .ref wq])), (ol, .inl (aI, 12, (.inl (fun kk => oI (mL kk)))))]) [1, 0] rfl
  have hD := hD.sub (ws' := [(o, .inr (7, [.int (nI 0), .int (nI nl), .int (nI nr), .ref ed, .ref ol, .ref ri, .ref bu, .ref bv, .ref dq, .ref pq, .ref lq, .ref wf, .ref tq, .ref yq, .ref rq, .ref fq, .ref gl, .ref gr, .ref rc, .ref wq])), (ol, .inl (aI, 12, (.inl (fun kk => oI (mL kk)))))]) [1, 0] (by decide) rfl
  exact j_iret (w1 := fun u => w_X7_size_o aI aJ aZ o ed ol ri bu bv dq pq lq wf tq yq rq fq gl gr rc wq rf nl nr mL u) (post := p_X7_size rf nl nr mL) C () hP hD hS ⟨rfl, trivial⟩ dX7_size_8
abbrev w_X7_turn_o (aI aJ aZ : ClassId) (o ed ol ri bu bv dq pq lq wf tq yq rq fq gl gr rc wq : Nat) (rf : Int32) (nl : Nat) (nr : Nat) (mL : Nat → Option Nat) (mR : Nat → Option Nat) (lf : Nat → Option Nat) (q0 : Option Nat) (uu0 : Unit) : va_W := [(o, .inr (7, [.int rf, .int (nI nl), .int (nI nr), .ref ed, .ref ol, .ref ri, .ref bu, .ref bv, .ref dq, .ref pq, .ref lq, .ref wf, .ref tq, .ref yq, .ref rq, .ref fq, .ref gl, .ref gr, .ref rc, .ref wq])), (ol, .inl (aI, 12, (.inl (fun kk => oI (((flp lf 12 mL mR q0).1) kk))))), (ri, .inl (aI, 12, (.inl (fun kk => oI (((flp lf 12 mL mR q0).2) kk))))), (fq, .inl (aI, 12, (.inl (fun kk => oI (lf kk)))))]
abbrev p_X7_turn (rf : Int32) (nl : Nat) (nr : Nat) (mL : Nat → Option Nat) (mR : Nat → Option Nat) (lf : Nat → Option Nat) (q0 : Option Nat) (uu0 : Unit) : Prop := True
set_option maxHeartbeats 4000000 in
set_option maxRecDepth 100000 in
theorem c_X7_turn (l : Launch) (D : va_G) (aI aJ aZ : ClassId) (o ed ol ri bu bv dq pq lq wf tq yq rq fq gl gr rc wq : Nat) (rf : Int32) (nl : Nat) (nr : Nat) (mL : Nat → Option Nat) (mR : Nat → Option Nat) (lf : Nat → Option Nat) (q0 : Option Nat) (hch : chn lf 12 mL q0) (sz : Nat) : Met l yX7_turn wsX7_turn ({ frames := 0, cells := 0, slots := 0, locals := 0 }) (va_Pc [.ref o, .int (oI q0)] (jI D (jT aI aJ aZ) [(o, .inr (7, [.int rf, .int (nI nl), .int (nI nr), .ref ed, .ref ol, .ref ri, .ref bu, .ref bv, .ref dq, .ref pq, .ref lq, .ref wf, .ref tq, .ref yq, .ref rq, .ref fq, .ref gl, .ref gr, .ref rc, .ref wq])), (ol, .inl (aI, 12, (.inl (fun kk => oI (mL kk))))), (ri, .inl (aI, 12, (.inl (fun kk => oI (mR kk))))), (fq, .inl (aI, 12, (.inl (fun kk => oI (lf kk)))))] sz)) (va_Qv (S := Unit) (p_X7_turn rf nl nr mL mR lf q0) (fun u t => jO D (jT aI aJ aZ) (va_A [(o, .inr (7, [.int rf, .int (nI nl), .int (nI nr), .ref ed, .ref ol, .ref ri, .ref bu, .ref bv, .ref dq, .ref pq, .ref lq, .ref wf, .ref tq, .ref yq, .ref rq, .ref fq, .ref gl, .ref gr, .ref rc, .ref wq])), (ol, .inl (aI, 12, (.inl (fun kk => oI (mL kk))))), (ri, .inl (aI, 12, (.inl (fun kk => oI (mR kk))))), (fq, .inl (aI, 12, (.inl (fun kk => oI (lf kk)))))] sz) (w_X7_turn_o aI aJ aZ o ed ol ri bu bv dq pq lq wf tq yq rq fq gl gr rc wq rf nl nr mL mR lf q0 u) t) (va_A [(o, .inr (7, [.int rf, .int (nI nl), .int (nI nr), .ref ed, .ref ol, .ref ri, .ref bu, .ref bv, .ref dq, .ref pq, .ref lq, .ref wf, .ref tq, .ref yq, .ref rq, .ref fq, .ref gl, .ref gr, .ref rc, .ref wq])), (ol, .inl (aI, 12, (.inl (fun kk => oI (mL kk))))), (ri, .inl (aI, 12, (.inl (fun kk => oI (mR kk))))), (fq, .inl (aI, 12, (.inl (fun kk => oI (lf kk)))))] sz)) 0 0 (va_A [(o, .inr (7, [.int rf, .int (nI nl), .int (nI nr), .ref ed, .ref ol, .ref ri, .ref bu, .ref bv, .ref dq, .ref pq, .ref lq, .ref wf, .ref tq, .ref yq, .ref rq, .ref fq, .ref gl, .ref gr, .ref rc, .ref wq])), (ol, .inl (aI, 12, (.inl (fun kk => oI (mL kk))))), (ri, .inl (aI, 12, (.inl (fun kk => oI (mR kk))))), (fq, .inl (aI, 12, (.inl (fun kk => oI (lf kk)))))] sz) := by
  refine j_of (Qc := fun A => va_Qv (S := Unit) (p_X7_turn rf nl nr mL mR lf q0) (fun u t => jO D (jT aI aJ aZ) A (w_X7_turn_o aI aJ aZ o ed ol ri bu bv dq pq lq wf tq yq rq fq gl gr rc wq rf nl nr mL mR lf q0 u) t) A) (own := RX7) (nm := "turn") (by decide +kernel) rfl rfl rfl (Nat.le_of_ble_eq_true rfl) ?_
  intro p e s m below meth c A ls H locs C hP hD hS hl
  obtain ⟨hx, hb, hml, hown, hts, hK, hA, hlocks, hr, hn, hN⟩ := id C
  have L_13 := hts (.fieldLink RX7 13 "PhasehallModel" "ofLeft" "[I") (List.mem_of_getElem? (i := 2) rfl)
  have L_17 := hts (.fieldLink RX7 17 "PhasehallModel" "ofRight" "[I") (List.mem_of_getElem? (i := 3) rfl)
  have L_47 := hts (.fieldLink RX7 47 "PhasehallModel" "from" "[I") (List.mem_of_getElem? (i := 1) rfl)
  have inX7 : ∀ w ∈ wsX70, w ∈ wsX7_turn := fun _ h => List.mem_cons_of_mem _ (List.mem_append_right _ h)
  have key : ∀ N : Nat, (∀ (n0 : Nat) (q1 : Option Nat) (m1 : Nat → Option Nat) (m2 : Nat → Option Nat) (H : Heap) (locs : List Loc) (ls : Array Slot), (n0 + 1) < N → (chn lf n0 m1 q1) → (flp lf n0 m1 m2 q1 = (flp lf 12 mL mR q0)) → va_P D vwCl [(o, .inr (7, [.int rf, .int (nI nl), .int (nI nr), .ref ed, .ref ol, .ref ri, .ref bu, .ref bv, .ref dq, .ref pq, .ref lq, .ref wf, .ref tq, .ref yq, .ref rq, .ref fq, .ref gl, .ref gr, .ref rc, .ref wq])), (ol, .inl (aI, 12, (.inl (fun kk => oI (m1 kk))))), (ri, .inl (aI, 12, (.inl (fun kk => oI (m2 kk))))), (fq, .inl (aI, 12, (.inl (fun kk => oI (lf kk)))))] H → va_D A [(o, .inr (7, [.int rf, .int (nI nl), .int (nI nr), .ref ed, .ref ol, .ref ri, .ref bu, .ref bv, .ref dq, .ref pq, .ref lq, .ref wf, .ref tq, .ref yq, .ref rq, .ref fq, .ref gl, .ref gr, .ref rc, .ref wq])), (ol, .inl (aI, 12, (.inl (fun kk => oI (m1 kk))))), (ri, .inl (aI, 12, (.inl (fun kk => oI (m2 kk))))), (fq, .inl (aI, 12, (.inl (fun kk => oI (lf kk)))))] → va_S A s.heap H locs → lv_has ls 5 [(0, .ref o), (2, .int (oI q1))] → W p l e ({ frames := 0, cells := 0, slots := 0, locals := 0 }) s m ([.ref o, .int (oI q0)] : List Value).toArray below meth c H locs 0 0 (MQ below (va_Qv (S := Unit) (p_X7_turn rf nl nr mL mR lf q0) (fun u t => jO D (jT aI aJ aZ) A (w_X7_turn_o aI aJ aZ o ed ol ri bu bv dq pq lq wf tq yq rq fq gl gr rc wq rf nl nr mL mR lf q0 u) t) A) ([.ref o, .int (oI q0)] : List Value).toArray s 0 0 A) (F0 m 2 ls [])) := by
    intro N
    induction N with
    | zero => exact fun _ _ _ _ _ _ _ h => absurd h (Nat.not_lt_zero _)
    | succ N ih =>
      have ih2 := ih
      intro n0 q1 m1 m2 H locs ls hmeas hc hR hP hD hS hl
      refine lv_iload_n hx hb dX7_turn_2 rfl (lv_at hl 1 rfl) ?_
      refine lv_iconst (v := oI none) hx hb dX7_turn_3 (by decide) ?_
      refine lv_icmp_eq (tgt := 42) hx hb dX7_turn_4 (by decide) (fun c_4 => ?_) (fun c_4 => ?_)
      · rw [show oI none = (-1 : Int32) from rfl, cv_oN (fun v hv => by have := chn_lt (n := n0) (mL := m1) (by rw [← hv]; exact hc); omega)] at c_4
        rw [c_4] at hl
        have hl : lv_has ls 5 [(0, .ref o), (2, .int (oI none))] := hl
        have hP := va_reA (g := fun kk => oI (((flp lf 12 mL mR q0).1) kk)) hP 1 rfl (fun kk hkk => by rw [← hR, c_4, flp_none])
        have hD := hD.set (p := 1) (e := .inl (aI, 12, (.inl (fun kk => oI (((flp lf 12 mL mR q0).1) kk))))) rfl
        have hP := va_reA (g := fun kk => oI (((flp lf 12 mL mR q0).2) kk)) hP 2 rfl (fun kk hkk => by rw [← hR, c_4, flp_none])
        have hD := hD.set (p := 2) (e := .inl (aI, 12, (.inl (fun kk => oI (((flp lf 12 mL mR q0).2) kk))))) rfl
        have hP : va_P D vwCl [(o, .inr (7, [.int rf, .int (nI nl), .int (nI nr), .ref ed, .ref ol, .ref ri, .ref bu, .ref bv, .ref dq, .ref pq, .ref lq, .ref wf, .ref tq, .ref yq, .ref rq, .ref fq, .ref gl, .ref gr, .ref rc, .ref wq])), (ol, .inl (aI, 12, (.inl (fun kk => oI (((flp lf 12 mL mR q0).1) kk))))), (ri, .inl (aI, 12, (.inl (fun kk => oI (((flp lf 12 mL mR q0).2) kk))))), (fq, .inl (aI, 12, (.inl (fun kk => oI (lf kk)))))] H := hP
        have hD : va_D A [(o, .inr (7, [.int rf, .int (nI nl), .int (nI nr), .ref ed, .ref ol, .ref ri, .ref bu, .ref bv, .ref dq, .ref pq, .ref lq, .ref wf, .ref tq, .ref yq, .ref rq, .ref fq, .ref gl, .ref gr, .ref rc, .ref wq])), (ol, .inl (aI, 12, (.inl (fun kk => oI (((flp lf 12 mL mR q0).1) kk))))), (ri, .inl (aI, 12, (.inl (fun kk => oI (((flp lf 12 mL mR q0).2) kk))))), (fq, .inl (aI, 12, (.inl (fun kk => oI (lf kk)))))] := hD
        exact j_vret (w1 := fun u => w_X7_turn_o aI aJ aZ o ed ol ri bu bv dq pq lq wf tq yq rq fq gl gr rc wq rf nl nr mL mR lf q0 u) (post := p_X7_turn rf nl nr mL mR lf q0) C () hP hD hS trivial dX7_turn_42
      · rw [show oI none = (-1 : Int32) from rfl, cv_oN (fun v hv => by have := chn_lt (n := n0) (mL := m1) (by rw [← hv]; exact hc); omega)] at c_4
        obtain ⟨v_4, hv_4⟩ := some_of c_4
        rw [hv_4] at hl
        have hl : lv_has ls 5 [(0, .ref o), (2, .int (nI v_4))] := hl
        obtain ⟨n1, v2, en, hlf, hr12, hl12, hc2⟩ := chn_go (n := n0) (mL := m1) (by rw [← hv_4]; exact hc)
        refine lv_aload_n hx hb dX7_turn_7 rfl (lv_at hl 0 rfl) ?_
        refine va_get (D := D) (ci := 7) (v := .ref fq) (C := RX7) (T := TX7) (N := 20) hx hb hts inX7 hown hK hP 0 rfl rfl 15 (by decide) L_47 (fun _ h9 => h9) rfl dX7_turn_8 ?_
        refine lv_iload_n hx hb dX7_turn_11 rfl (lv_at hl 1 rfl) ?_
        refine j_iald (v := nI v2) hx hb hK hP 3 0 rfl rfl (by omega) (by omega) (by rw [hlf]; rfl) dX7_turn_12 ?_
        refine lv_istore_n (lv' := [(3, .int (nI v2)), (0, .ref o), (2, .int (nI v_4))]) hx hb dX7_turn_13 rfl hl (by decide) rfl (fun ls hl => ?_)
        refine lv_aload_n hx hb dX7_turn_14 rfl (lv_at hl 1 rfl) ?_
        refine va_get (D := D) (ci := 7) (v := .ref ol) (C := RX7) (T := TX7) (N := 20) hx hb hts inX7 hown hK hP 0 rfl rfl 4 (by decide) L_13 (fun _ h9 => h9) rfl dX7_turn_15 ?_
        refine lv_iload_n hx hb dX7_turn_18 rfl (lv_at hl 0 rfl) ?_
        refine j_iald (v := oI (m1 v2)) hx hb hK hP 1 0 rfl rfl (by omega) (by omega) (rfl) dX7_turn_19 ?_
        refine lv_istore (lv' := [(4, .int (oI (m1 v2))), (3, .int (nI v2)), (0, .ref o), (2, .int (nI v_4))]) hx hb dX7_turn_20 hl (by decide) rfl (fun ls hl => ?_)
        refine lv_aload_n hx hb dX7_turn_22 rfl (lv_at hl 2 rfl) ?_
        refine va_get (D := D) (ci := 7) (v := .ref ol) (C := RX7) (T := TX7) (N := 20) hx hb hts inX7 hown hK hP 0 rfl rfl 4 (by decide) L_13 (fun _ h9 => h9) rfl dX7_turn_23 ?_
        refine lv_iload_n hx hb dX7_turn_26 rfl (lv_at hl 1 rfl) ?_
        refine lv_iload_n hx hb dX7_turn_27 rfl (lv_at hl 3 rfl) ?_
        refine j_iast (g := fun kk => oI ((va_up m1 v2 (some v_4)) kk)) hx hb hK hP hD hS 1 0 rfl rfl (by omega) (by omega) (upd_oI _ _ (some v_4)) dX7_turn_28 (fun H locs hP hD hS => ?_)
        have hP : va_P D vwCl [(o, .inr (7, [.int rf, .int (nI nl), .int (nI nr), .ref ed, .ref ol, .ref ri, .ref bu, .ref bv, .ref dq, .ref pq, .ref lq, .ref wf, .ref tq, .ref yq, .ref rq, .ref fq, .ref gl, .ref gr, .ref rc, .ref wq])), (ol, .inl (aI, 12, (.inl (fun kk => oI ((va_up m1 v2 (some v_4)) kk))))), (ri, .inl (aI, 12, (.inl (fun kk => oI (m2 kk))))), (fq, .inl (aI, 12, (.inl (fun kk => oI (lf kk)))))] H := hP
        have hD : va_D A [(o, .inr (7, [.int rf, .int (nI nl), .int (nI nr), .ref ed, .ref ol, .ref ri, .ref bu, .ref bv, .ref dq, .ref pq, .ref lq, .ref wf, .ref tq, .ref yq, .ref rq, .ref fq, .ref gl, .ref gr, .ref rc, .ref wq])), (ol, .inl (aI, 12, (.inl (fun kk => oI ((va_up m1 v2 (some v_4)) kk))))), (ri, .inl (aI, 12, (.inl (fun kk => oI (m2 kk))))), (fq, .inl (aI, 12, (.inl (fun kk => oI (lf kk)))))] := hD
        refine lv_aload_n hx hb dX7_turn_29 rfl (lv_at hl 2 rfl) ?_
        refine va_get (D := D) (ci := 7) (v := .ref ri) (C := RX7) (T := TX7) (N := 20) hx hb hts inX7 hown hK hP 0 rfl rfl 5 (by decide) L_17 (fun _ h9 => h9) rfl dX7_turn_30 ?_
        refine lv_iload_n hx hb dX7_turn_33 rfl (lv_at hl 3 rfl) ?_
        refine lv_iload_n hx hb dX7_turn_34 rfl (lv_at hl 1 rfl) ?_
        refine j_iast (g := fun kk => oI ((va_up m2 v_4 (some v2)) kk)) hx hb hK hP hD hS 2 0 rfl rfl (by omega) (by omega) (upd_oI _ _ (some v2)) dX7_turn_35 (fun H locs hP hD hS => ?_)
        have hP : va_P D vwCl [(o, .inr (7, [.int rf, .int (nI nl), .int (nI nr), .ref ed, .ref ol, .ref ri, .ref bu, .ref bv, .ref dq, .ref pq, .ref lq, .ref wf, .ref tq, .ref yq, .ref rq, .ref fq, .ref gl, .ref gr, .ref rc, .ref wq])), (ol, .inl (aI, 12, (.inl (fun kk => oI ((va_up m1 v2 (some v_4)) kk))))), (ri, .inl (aI, 12, (.inl (fun kk => oI ((va_up m2 v_4 (some v2)) kk))))), (fq, .inl (aI, 12, (.inl (fun kk => oI (lf kk)))))] H := hP
        have hD : va_D A [(o, .inr (7, [.int rf, .int (nI nl), .int (nI nr), .ref ed, .ref ol, .ref ri, .ref bu, .ref bv, .ref dq, .ref pq, .ref lq, .ref wf, .ref tq, .ref yq, .ref rq, .ref fq, .ref gl, .ref gr, .ref rc, .ref wq])), (ol, .inl (aI, 12, (.inl (fun kk => oI ((va_up m1 v2 (some v_4)) kk))))), (ri, .inl (aI, 12, (.inl (fun kk => oI ((va_up m2 v_4 (some v2)) kk))))), (fq, .inl (aI, 12, (.inl (fun kk => oI (lf kk)))))] := hD
        refine lv_iload hx hb dX7_turn_36 (lv_at hl 0 rfl) ?_
        refine lv_istore_n (lv' := [(2, .int (oI (m1 v2))), (4, .int (oI (m1 v2))), (3, .int (nI v2)), (0, .ref o)]) hx hb dX7_turn_38 rfl hl (by decide) rfl (fun ls hl => ?_)
        refine lv_goto (tgt := 2) hx hb dX7_turn_39 (by decide) ?_
        have hl := lv_sub (l' := [(0, .ref o), (2, .int (oI (m1 v2)))]) hl [3, 0] rfl
        exact ih2 n1 (m1 v2) (va_up m1 v2 (some v_4)) (va_up m2 v_4 (some v2)) _ _ _ (by omega) (show chn lf n1 (va_up m1 v2 (some v_4)) (m1 v2) from by exact hc2) (show flp lf n1 (va_up m1 v2 (some v_4)) (va_up m2 v_4 (some v2)) (m1 v2) = (flp lf 12 mL mR q0) from by rw [← hR, hv_4, en, flp, hlf]) hP hD hS hl
  have hl : lv_has ls 5 [(0, .ref o), (1, .int (oI q0))] := hl
  refine lv_iload_n hx hb dX7_turn_0 rfl (lv_at hl 1 rfl) ?_
  refine lv_istore_n (lv' := [(2, .int (oI q0)), (0, .ref o), (1, .int (oI q0))]) hx hb dX7_turn_1 rfl hl (by decide) rfl (fun ls hl => ?_)
  have hl := lv_sub (l' := [(0, .ref o), (2, .int (oI q0))]) hl [1, 0] rfl
  exact (key _) 12 q0 mL mR _ _ _ (Nat.lt_succ_self _) (show chn lf 12 mL q0 from by exact hch) (show flp lf 12 mL mR q0 = (flp lf 12 mL mR q0) from by rfl) hP hD hS hl
