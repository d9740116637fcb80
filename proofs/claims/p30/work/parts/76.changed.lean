/-! how many left nodes have another partner than noted; how many were freed -/
abbrev WF2 (aI aJ : ClassId) (h : Nat → Nat) (st : St) (j : Jk) (fa : Nat) (F : Nat → Int32) : va_W := HC aI aJ h st j ++ [(fa, .inl (aI, 12, .inl F))]
def chg (F : Nat → Int32) (mL : Nat → Option Nat) (n : Nat) : Nat := cnt n (fun z => !decide (F z = pv (mL z)))
def nf (F : Nat → Int32) (mL : Nat → Option Nat) (n : Nat) : Nat → Int32 := fun z => if z < n then pv (mL z) else F z
theorem nf_at {F : Nat → Int32} {mL : Nat → Option Nat} {k : Nat} : nf F mL k k = F k := if_neg (Nat.lt_irrefl k)
theorem nf_0 {F : Nat → Int32} {mL : Nat → Option Nat} : nf F mL 0 = F := by
  funext z
  exact if_neg (Nat.not_lt_zero z)
theorem nf_up {F : Nat → Int32} {mL : Nat → Option Nat} {k : Nat} : upd (nf F mL k) k (pv (mL k)) = nf F mL (k + 1) := by
  funext z
  by_cases e : z = k
  · subst e
    rw [pk_us]
    exact (if_pos (Nat.lt_succ_self z)).symm
  · rw [pk_un e]
    unfold nf
    by_cases h : z < k
    · rw [if_pos h, if_pos (by omega)]
    · rw [if_neg h, if_neg (by omega)]
theorem chg_y {F : Nat → Int32} {mL : Nat → Option Nat} {k : Nat} (h : F k = pv (mL k)) : nI (chg F mL k) + nI 0 = nI (chg F mL (k + 1)) := by
  rw [nI_add]
  unfold chg
  rw [cnt, decide_eq_true h]
  rfl
theorem chg_n {F : Nat → Int32} {mL : Nat → Option Nat} {k : Nat} (h : ¬ F k = pv (mL k)) : nI (chg F mL k) + nI 1 = nI (chg F mL (k + 1)) := by
  rw [nI_add]
  unfold chg
  rw [cnt, decide_eq_false h]
  rfl
section CHS
variable {p : Program} {e : Env} {R : Room} {s : State} {m : MethodId} {args : Array Value} {below : List Frame} {meth : Method} {c : Code} {Q : State → Prop} {D : va_G} {aI aJ aZ : ClassId} {A : Nat → Prop} {nm : String} {H : Heap} {locs : List Loc} {cells slots : Nat} {ls : Array Slot} {h : Nat → Nat} {st : St} {j : Jk} {fa k : Nat} {F : Nat → Int32}
set_option maxHeartbeats 4000000 in
set_option maxRecDepth 100000 in
theorem ch_A  (l : Launch) (hl0 : l.stackTraces = false) (hRf : 22 ≤ R.frames) (hRl : 600 ≤ R.locals) (C : jC p s m meth c cL_changed 5 (some .int) RL wsL_changed D (jT aI aJ aZ) args A nm) (hXs : jXs A s s.heap) (hi : HI st) (hkl : k ≤ sNl st) (hP : va_P D vwCl (HC aI aJ h st j ++ ([(fa, .inl (aI, 12, .inl (nf F (sL st) k)))])) H) (hD : va_D A (HC aI aJ h st j ++ ([(fa, .inl (aI, 12, .inl (nf F (sL st) k)))]))) (hS : va_S A s.heap H locs) (hl : lv_has ls 5 [(0, .ref (h 0)), (1, .ref fa), (2, .int (nI (chg F (sL st) k))), (3, .int (nI k))]) (hRc : cells + 2 ≤ R.cells) (hRs : slots + 12 ≤ R.slots) (kx : ∀ (j : Jk) (H : Heap) (locs : List Loc) (ls : Array Slot) (c1 s1 : Nat), va_P D vwCl (HC aI aJ h st j ++ ([(fa, .inl (aI, 12, .inl (nf F (sL st) (sNl st))))])) H → va_D A (HC aI aJ h st j ++ ([(fa, .inl (aI, 12, .inl (nf F (sL st) (sNl st))))])) → va_S A s.heap H locs → lv_has ls 5 [(0, .ref (h 0)), (2, .int (nI (chg F (sL st) (sNl st))))] → c1 ≤ cells + 2 → s1 ≤ slots + 12 → W p l e R s m args below meth c H locs c1 s1 Q (F0 m 46 ls [])) (kn : ∀ (j : Jk) (H : Heap) (locs : List Loc) (ls : Array Slot) (c1 s1 : Nat), (k < sNl st) → va_P D vwCl (HC aI aJ h st j ++ ([(fa, .inl (aI, 12, .inl (nf F (sL st) (k + 1))))])) H → va_D A (HC aI aJ h st j ++ ([(fa, .inl (aI, 12, .inl (nf F (sL st) (k + 1))))])) → va_S A s.heap H locs → lv_has ls 5 [(0, .ref (h 0)), (1, .ref fa), (2, .int (nI (chg F (sL st) (k + 1)))), (3, .int (nI (k + 1)))] → c1 ≤ cells + 2 → s1 ≤ slots + 12 → W p l e R s m args below meth c H locs c1 s1 Q (F0 m 4 ls [])) : W p l e R s m args below meth c H locs cells slots Q (F0 m 4 ls []) := by
  obtain ⟨hx, hb, hml, hown, hts, hK, hA, hlocks, hr, hn, hN⟩ := id C
  have hnl : sNl st ≤ 12 := hi.1
  refine lv_iload_n hx hb dL_changed_4 rfl (lv_at hl 3 rfl) ?_
  refine lv_aload_n hx hb dL_changed_5 rfl (lv_at hl 0 rfl) ?_
  refine j_calli (va_runV (As := []) (rest := [.int (nI k)]) C.fix (k_lefts l D aI aJ aZ h st j hi H.size) (cwV 0 hts gL_changed_X6_lefts rfl rfl rfl (by decide +kernel) ⟨Nat.le_trans (m := 22) (Nat.le_of_ble_eq_true rfl) hRf, Nat.le_trans (m := 600) (Nat.le_of_ble_eq_true rfl) hRl⟩) (jPreV hN hK hP hD [0, 1, 2, 3, 4, 5, 6, 7, 8, 9, 10, 11, 12, 13, 14, 15, 16, 17, 18, 19, 20] rfl rfl (by decide) (ci := 6) (q0 := 0) rfl rfl) rfl rfl hl.1 rfl (lv_room (Nat.le_of_ble_eq_true rfl)) dL_changed_6 ⟨by omega, by omega⟩) hA hP hD hS [0, 1, 2, 3, 4, 5, 6, 7, 8, 9, 10, 11, 12, 13, 14, 15, 16, 17, 18, 19, 20] [21] (wr := [(fa, .inl (aI, 12, .inl (nf F (sL st) k)))]) rfl rfl (by decide) (by decide) (fun r_6 u_6 H locs q_6 hP hD hS => ?_)
  have hP := hP.sub (ws' := HC aI aJ h st u_6 ++ ([(fa, .inl (aI, 12, .inl (nf F (sL st) k)))])) [1, 2, 3, 4, 5, 6, 7, 8, 9, 10, 11, 12, 13, 14, 15, 16, 17, 18, 19, 20, 21, 0] rfl
  have hD := hD.sub (ws' := HC aI aJ h st u_6 ++ ([(fa, .inl (aI, 12, .inl (nf F (sL st) k)))])) [1, 2, 3, 4, 5, 6, 7, 8, 9, 10, 11, 12, 13, 14, 15, 16, 17, 18, 19, 20, 21, 0] (by decide) rfl
  have hP : va_P D vwCl (HC aI aJ h st u_6 ++ ([(fa, .inl (aI, 12, .inl (nf F (sL st) k)))])) H := hP
  have hD : va_D A (HC aI aJ h st u_6 ++ ([(fa, .inl (aI, 12, .inl (nf F (sL st) k)))])) := hD
  refine j_topi (y := nI (sNl st)) (q_6) ?_
  refine lv_icmp_ge (tgt := 46) hx hb dL_changed_9 (by decide) (fun c_9 => ?_) (fun c_9 => ?_)
  · rw [cv_le (by omega) (by omega)] at c_9
    have hk : k = sNl st := by omega
    rw [hk] at hP hD hl
    have hP : va_P D vwCl (HC aI aJ h st u_6 ++ ([(fa, .inl (aI, 12, .inl (nf F (sL st) (sNl st))))])) H := hP
    have hD : va_D A (HC aI aJ h st u_6 ++ ([(fa, .inl (aI, 12, .inl (nf F (sL st) (sNl st))))])) := hD
    have hl := lv_sub (l' := [(0, .ref (h 0)), (2, .int (nI (chg F (sL st) (sNl st))))]) hl [0, 2] rfl
    exact kx u_6 H _ ls _ _ hP hD hS hl (by omega) (by omega)
  · rw [cv_le (by omega) (by omega)] at c_9
    have hk : k < sNl st := by omega
    refine lv_aload_n hx hb dL_changed_12 rfl (lv_at hl 0 rfl) ?_
    refine lv_iload_n hx hb dL_changed_13 rfl (lv_at hl 3 rfl) ?_
    refine j_calliM (vx_runSW (As := [.ref (h 0), .int (nI k)]) (rest := []) C.fix (c_L_ofLeft l hl0 D aI aJ aZ h st u_6 (nI k) hi H.size) (vx_cwSW 2 hts gL_changed_L_ofLeft rfl rfl rfl (by decide +kernel) ⟨Nat.le_trans (m := 22) (Nat.le_of_ble_eq_true rfl) hRf, Nat.le_trans (m := 600) (Nat.le_of_ble_eq_true rfl) hRl⟩) (jxPreS hXs hA hS hN hK hP hD [0, 1, 2, 3, 4, 5, 6, 7, 8, 9, 10, 11, 12, 13, 14, 15, 16, 17, 18, 19, 20] rfl rfl (by decide)) rfl rfl hl.1 rfl (lv_room (Nat.le_of_ble_eq_true rfl)) dL_changed_14 ⟨by omega, by omega⟩) hA hP hD hS [0, 1, 2, 3, 4, 5, 6, 7, 8, 9, 10, 11, 12, 13, 14, 15, 16, 17, 18, 19, 20] [21] (wr := [(fa, .inl (aI, 12, .inl (nf F (sL st) k)))]) rfl rfl (by decide) (by decide) (fun r_14 u_14 H locs q_14 hP hD hS => ?_)
    have hP := hP.sub (ws' := HC aI aJ h st u_14 ++ ([(fa, .inl (aI, 12, .inl (nf F (sL st) k)))])) [1, 2, 3, 4, 5, 6, 7, 8, 9, 10, 11, 12, 13, 14, 15, 16, 17, 18, 19, 20, 21, 0] rfl
    have hD := hD.sub (ws' := HC aI aJ h st u_14 ++ ([(fa, .inl (aI, 12, .inl (nf F (sL st) k)))])) [1, 2, 3, 4, 5, 6, 7, 8, 9, 10, 11, 12, 13, 14, 15, 16, 17, 18, 19, 20, 21, 0] (by decide) rfl
    have hP : va_P D vwCl (HC aI aJ h st u_14 ++ ([(fa, .inl (aI, 12, .inl (nf F (sL st) k)))])) H := hP
    have hD : va_D A (HC aI aJ h st u_14 ++ ([(fa, .inl (aI, 12, .inl (nf F (sL st) k)))])) := hD
    refine j_topi (y := pv (sL st k)) (ol_at (ix_of (by omega) hk rfl) q_14) ?_
    refine lv_istore (lv' := [(4, .int (pv (sL st k))), (0, .ref (h 0)), (1, .ref fa), (2, .int (nI (chg F (sL st) k))), (3, .int (nI k))]) hx hb dL_changed_17 hl (by decide) rfl (fun ls hl => ?_)
    refine lv_iload_n hx hb dL_changed_19 rfl (lv_at hl 3 rfl) ?_
    refine lv_aload_n hx hb dL_changed_20 rfl (lv_at hl 2 rfl) ?_
    refine lv_iload_n hx hb dL_changed_21 rfl (lv_at hl 4 rfl) ?_
    refine j_iald (v := F k) hx hb hK hP 21 0 rfl rfl (by omega) (by omega) (nf_at) dL_changed_22 ?_
    refine lv_iload hx hb dL_changed_23 (lv_at hl 0 rfl) ?_
    refine lv_icmp_ne (tgt := 32) hx hb dL_changed_25 (by decide) (fun c_25 => ?_) (fun c_25 => ?_)
    · refine lv_iconst (v := nI 1) hx hb dL_changed_32 (by decide) ?_
      refine lv_iadd hx hb dL_changed_33 ?_
      refine j_topi (y := nI (chg F (sL st) (k + 1))) (chg_n c_25) ?_
      refine lv_istore_n (lv' := [(2, .int (nI (chg F (sL st) (k + 1)))), (4, .int (pv (sL st k))), (0, .ref (h 0)), (1, .ref fa), (3, .int (nI k))]) hx hb dL_changed_34 rfl hl (by decide) rfl (fun ls hl => ?_)
      refine lv_aload_n hx hb dL_changed_35 rfl (lv_at hl 3 rfl) ?_
      refine lv_iload_n hx hb dL_changed_36 rfl (lv_at hl 4 rfl) ?_
      refine lv_iload hx hb dL_changed_37 (lv_at hl 1 rfl) ?_
      refine j_iast (g := nf F (sL st) (k + 1)) hx hb hK hP hD hS 21 0 rfl rfl (by omega) (by omega) (nf_up) dL_changed_39 (fun H locs hP hD hS => ?_)
      have hP : va_P D vwCl (HC aI aJ h st u_14 ++ ([(fa, .inl (aI, 12, .inl (nf F (sL st) (k + 1))))])) H := hP
      have hD : va_D A (HC aI aJ h st u_14 ++ ([(fa, .inl (aI, 12, .inl (nf F (sL st) (k + 1))))])) := hD
      refine lv_iinc (v := nI (k + 1)) (lv' := [(3, .int (nI (k + 1))), (2, .int (nI (chg F (sL st) (k + 1)))), (4, .int (pv (sL st k))), (0, .ref (h 0)), (1, .ref fa)]) hx hb dL_changed_40 hl (k := 4) rfl (inc_nI _ _) (by decide) rfl (fun ls hl => ?_)
      refine lv_goto (tgt := 4) hx hb dL_changed_43 (by decide) ?_
      have hl := lv_sub (l' := [(0, .ref (h 0)), (1, .ref fa), (2, .int (nI (chg F (sL st) (k + 1)))), (3, .int (nI (k + 1)))]) hl [3, 4, 1, 0] rfl
      exact kn u_14 H _ ls _ _ hk hP hD hS hl (by omega) (by omega)
    · refine lv_iconst (v := nI 0) hx hb dL_changed_28 (by decide) ?_
      refine lv_goto (tgt := 33) hx hb dL_changed_29 (by decide) ?_
      refine lv_iadd hx hb dL_changed_33 ?_
      refine j_topi (y := nI (chg F (sL st) (k + 1))) (chg_y c_25) ?_
      refine lv_istore_n (lv' := [(2, .int (nI (chg F (sL st) (k + 1)))), (4, .int (pv (sL st k))), (0, .ref (h 0)), (1, .ref fa), (3, .int (nI k))]) hx hb dL_changed_34 rfl hl (by decide) rfl (fun ls hl => ?_)
      refine lv_aload_n hx hb dL_changed_35 rfl (lv_at hl 3 rfl) ?_
      refine lv_iload_n hx hb dL_changed_36 rfl (lv_at hl 4 rfl) ?_
      refine lv_iload hx hb dL_changed_37 (lv_at hl 1 rfl) ?_
      refine j_iast (g := nf F (sL st) (k + 1)) hx hb hK hP hD hS 21 0 rfl rfl (by omega) (by omega) (nf_up) dL_changed_39 (fun H locs hP hD hS => ?_)
      have hP : va_P D vwCl (HC aI aJ h st u_14 ++ ([(fa, .inl (aI, 12, .inl (nf F (sL st) (k + 1))))])) H := hP
      have hD : va_D A (HC aI aJ h st u_14 ++ ([(fa, .inl (aI, 12, .inl (nf F (sL st) (k + 1))))])) := hD
      refine lv_iinc (v := nI (k + 1)) (lv' := [(3, .int (nI (k + 1))), (2, .int (nI (chg F (sL st) (k + 1)))), (4, .int (pv (sL st k))), (0, .ref (h 0)), (1, .ref fa)]) hx hb dL_changed_40 hl (k := 4) rfl (inc_nI _ _) (by decide) rfl (fun ls hl => ?_)
      refine lv_goto (tgt := 4) hx hb dL_changed_43 (by decide) ?_
      have hl := lv_sub (l' := [(0, .ref (h 0)), (1, .ref fa), (2, .int (nI (chg F (sL st) (k + 1)))), (3, .int (nI (k + 1)))]) hl [3, 4, 1, 0] rfl
      exact kn u_14 H _ ls _ _ hk hP hD hS hl (by omega) (by omega)
theorem ch_L (l : Launch) (hl0 : l.stackTraces = false) (hRf : 22 ≤ R.frames) (hRl : 600 ≤ R.locals) (C : jC p s m meth c cL_changed 5 (some .int) RL wsL_changed D (jT aI aJ aZ) args A nm) (hXs : jXs A s s.heap) (hi : HI st) (hRc : 26 ≤ R.cells) (hRs : 156 ≤ R.slots)
    (kx : ∀ (j : Jk) (H : Heap) (locs : List Loc) (ls : Array Slot) (c1 s1 : Nat), va_P D vwCl (HC aI aJ h st j ++ ([(fa, .inl (aI, 12, .inl (nf F (sL st) (sNl st))))])) H → va_D A (HC aI aJ h st j ++ ([(fa, .inl (aI, 12, .inl (nf F (sL st) (sNl st))))])) → va_S A s.heap H locs → lv_has ls 5 [(0, .ref (h 0)), (2, .int (nI (chg F (sL st) (sNl st))))] → c1 ≤ 26 → s1 ≤ 156 → W p l e R s m args below meth c H locs c1 s1 Q (F0 m 46 ls [])) :
    ∀ (N k : Nat) (j : Jk) (H : Heap) (locs : List Loc) (ls : Array Slot) (c1 s1 : Nat), k + N = sNl st + 1 → k ≤ sNl st → va_P D vwCl (HC aI aJ h st j ++ ([(fa, .inl (aI, 12, .inl (nf F (sL st) k)))])) H → va_D A (HC aI aJ h st j ++ ([(fa, .inl (aI, 12, .inl (nf F (sL st) k)))])) → va_S A s.heap H locs → lv_has ls 5 [(0, .ref (h 0)), (1, .ref fa), (2, .int (nI (chg F (sL st) k))), (3, .int (nI k))] → c1 ≤ 2 * k → s1 ≤ 12 * k → W p l e R s m args below meth c H locs c1 s1 Q (F0 m 4 ls []) := by
  have hnl : sNl st ≤ 12 := hi.1
  intro N
  induction N with
  | zero => intro k j H locs ls c1 s1 h1 h2; omega
  | succ N ih =>
    intro k j H locs ls c1 s1 h1 h2 hP hD hS hl k1 k2
    exact ch_A l hl0 hRf hRl C hXs hi h2 hP hD hS hl (by omega) (by omega) (fun j H locs ls c2 s2 hP hD hS hl k3 k4 => kx j H locs ls c2 s2 hP hD hS hl (by omega) (by omega))
      (fun j H locs ls c2 s2 hk hP hD hS hl k3 k4 => ih (k + 1) j H locs ls c2 s2 (by omega) (by omega) hP hD hS hl (by omega) (by omega))
end CHS
set_option maxHeartbeats 4000000 in
set_option maxRecDepth 100000 in
theorem c_L_changed (l : Launch) (hl0 : l.stackTraces = false) (D : va_G) (aI aJ aZ : ClassId) (h : Nat → Nat) (fa : Nat) (st : St) (j : Jk) (F : Nat → Int32) (hi : HI st) (z0 : Nat) : Met l yL_changed wsL_changed ({ frames := 22, cells := 26, slots := 156, locals := 600 }) (va_Pc [.ref (h 0), .ref fa] (jXI D (jT aI aJ aZ) (WF2 aI aJ h st j fa F) z0)) (va_Qi (S := Jk) (fun r u => r = nI (chg F (sL st) (sNl st))) (fun u t => jO D (jT aI aJ aZ) (va_A (WF2 aI aJ h st j fa F) z0) (WF2 aI aJ h st u fa (nf F (sL st) (sNl st))) t) (va_A (WF2 aI aJ h st j fa F) z0)) 26 156 (va_A (WF2 aI aJ h st j fa F) z0) := by
  refine jy_of (Qc := fun A => va_Qi (S := Jk) (fun r u => r = nI (chg F (sL st) (sNl st))) (fun u t => jO D (jT aI aJ aZ) A (WF2 aI aJ h st u fa (nf F (sL st) (sNl st))) t) A) (own := RL) (nm := "changed") (by decide +kernel) rfl rfl rfl (Nat.le_of_ble_eq_true rfl) ?_
  intro p e s m below meth c A ls H locs C hXs hP hD hS hl
  obtain ⟨hx, hb, hml, hown, hts, hK, hA, hlocks, hr, hn, hN⟩ := id C
  have hl : lv_has ls 5 [(0, .ref (h 0)), (1, .ref fa)] := hl
  refine lv_iconst (v := nI 0) hx hb dL_changed_0 (by decide) ?_
  refine lv_istore_n (lv' := [(2, .int (nI 0)), (0, .ref (h 0)), (1, .ref fa)]) hx hb dL_changed_1 rfl hl (by decide) rfl (fun ls hl => ?_)
  refine lv_iconst (v := nI 0) hx hb dL_changed_2 (by decide) ?_
  refine lv_istore_n (lv' := [(3, .int (nI 0)), (2, .int (nI 0)), (0, .ref (h 0)), (1, .ref fa)]) hx hb dL_changed_3 rfl hl (by decide) rfl (fun ls hl => ?_)
  have hl := lv_sub (l' := [(0, .ref (h 0)), (1, .ref fa), (2, .int (nI (chg F (sL st) 0))), (3, .int (nI 0))]) hl [2, 3, 1, 0] rfl
  have hP : va_P D vwCl (HC aI aJ h st j ++ [(fa, .inl (aI, 12, .inl F))]) H := hP
  have hD : va_D A (HC aI aJ h st j ++ [(fa, .inl (aI, 12, .inl F))]) := hD
  rw [← nf_0 (F := F) (mL := sL st)] at hP hD
  refine ch_L l hl0 (Nat.le_refl _) (Nat.le_refl _) C hXs hi (Nat.le_refl _) (Nat.le_refl _) (fun j H locs ls c1 s1 hP hD hS hl k1 k2 => ?_) (sNl st + 1) 0 j H locs ls 0 0 (Nat.zero_add _) (Nat.zero_le _) hP hD hS hl (Nat.le_refl _) (Nat.le_refl _)
  refine lv_iload_n hx hb dL_changed_46 rfl (lv_at hl 1 rfl) ?_
  refine W.widen (k := 26) (n := 156) k1 k2 ?_
  exact j_iret (w1 := fun u => WF2 aI aJ h st u fa (nf F (sL st) (sNl st))) (post := fun r u => r = nI (chg F (sL st) (sNl st))) C j hP hD hS rfl dL_changed_47
section FRS
variable {p : Program} {e : Env} {R : Room} {s : State} {m : MethodId} {args : Array Value} {below : List Frame} {meth : Method} {c : Code} {Q : State → Prop} {D : va_G} {aI aJ aZ : ClassId} {A : Nat → Prop} {nm : String} {H : Heap} {locs : List Loc} {cells slots : Nat} {ls : Array Slot} {h : Nat → Nat} {st : St} {j : Jk} {fa k : Nat} {F : Nat → Int32}
set_option maxHeartbeats 4000000 in
set_option maxRecDepth 100000 in
theorem fr_A1  (l : Launch) (hl0 : l.stackTraces = false) (hRf : 22 ≤ R.frames) (hRl : 600 ≤ R.locals) (C : jC p s m meth c cL_freed 4 (some .int) RL wsL_freed D (jT aI aJ aZ) args A nm) (hXs : jXs A s s.heap) (hi : HI st) (hkl : k ≤ sNl st) (hz : ∀ z, z < sNl st → (0 : Int32) ≤ F z → ∃ v, sL st z = some v) (hP : va_P D vwCl (HC aI aJ h st j ++ ([(fa, .inl (aI, 12, .inl F))])) H) (hD : va_D A (HC aI aJ h st j ++ ([(fa, .inl (aI, 12, .inl F))]))) (hS : va_S A s.heap H locs) (hl : lv_has ls 4 [(0, .ref (h 0)), (1, .ref fa), (2, .int (nI 0)), (3, .int (nI k))]) (hRc : cells + 2 ≤ R.cells) (hRs : slots + 12 ≤ R.slots) (kx : ∀ (j : Jk) (H : Heap) (locs : List Loc) (ls : Array Slot) (c1 s1 : Nat), va_P D vwCl (HC aI aJ h st j ++ ([(fa, .inl (aI, 12, .inl F))])) H → va_D A (HC aI aJ h st j ++ ([(fa, .inl (aI, 12, .inl F))])) → va_S A s.heap H locs → lv_has ls 4 [(0, .ref (h 0)), (2, .int (nI 0))] → c1 ≤ cells + 2 → s1 ≤ slots + 12 → W p l e R s m args below meth c H locs c1 s1 Q (F0 m 42 ls [])) (kn : ∀ (j : Jk) (H : Heap) (locs : List Loc) (ls : Array Slot) (c1 s1 : Nat), (k < sNl st) → va_P D vwCl (HC aI aJ h st j ++ ([(fa, .inl (aI, 12, .inl F))])) H → va_D A (HC aI aJ h st j ++ ([(fa, .inl (aI, 12, .inl F))])) → va_S A s.heap H locs → lv_has ls 4 [(0, .ref (h 0)), (1, .ref fa), (2, .int (nI 0)), (3, .int (nI (k + 1)))] → c1 ≤ cells + 2 → s1 ≤ slots + 12 → W p l e R s m args below meth c H locs c1 s1 Q (F0 m 4 ls [])) : W p l e R s m args below meth c H locs cells slots Q (F0 m 4 ls []) := by
  obtain ⟨hx, hb, hml, hown, hts, hK, hA, hlocks, hr, hn, hN⟩ := id C
  have L_31 := hts (.constant RL 31 (-9999004)) (List.mem_of_getElem? (i := 1) rfl)
  have hnl : sNl st ≤ 12 := hi.1
  have hnr : sNr st ≤ 12 := hi.2.1
  have hmL := (hi.2.2.2.1.b12 hnl hnr).1
  refine lv_iload_n hx hb dL_freed_4 rfl (lv_at hl 3 rfl) ?_
  refine lv_aload_n hx hb dL_freed_5 rfl (lv_at hl 0 rfl) ?_
  refine j_calli (va_runV (As := []) (rest := [.int (nI k)]) C.fix (k_lefts l D aI aJ aZ h st j hi H.size) (cwV 0 hts gL_freed_X6_lefts rfl rfl rfl (by decide +kernel) ⟨Nat.le_trans (m := 22) (Nat.le_of_ble_eq_true rfl) hRf, Nat.le_trans (m := 600) (Nat.le_of_ble_eq_true rfl) hRl⟩) (jPreV hN hK hP hD [0, 1, 2, 3, 4, 5, 6, 7, 8, 9, 10, 11, 12, 13, 14, 15, 16, 17, 18, 19, 20] rfl rfl (by decide) (ci := 6) (q0 := 0) rfl rfl) rfl rfl hl.1 rfl (lv_room (Nat.le_of_ble_eq_true rfl)) dL_freed_6 ⟨by omega, by omega⟩) hA hP hD hS [0, 1, 2, 3, 4, 5, 6, 7, 8, 9, 10, 11, 12, 13, 14, 15, 16, 17, 18, 19, 20] [21] (wr := [(fa, .inl (aI, 12, .inl F))]) rfl rfl (by decide) (by decide) (fun r_6 u_6 H locs q_6 hP hD hS => ?_)
  have hP := hP.sub (ws' := HC aI aJ h st u_6 ++ ([(fa, .inl (aI, 12, .inl F))])) [1, 2, 3, 4, 5, 6, 7, 8, 9, 10, 11, 12, 13, 14, 15, 16, 17, 18, 19, 20, 21, 0] rfl
  have hD := hD.sub (ws' := HC aI aJ h st u_6 ++ ([(fa, .inl (aI, 12, .inl F))])) [1, 2, 3, 4, 5, 6, 7, 8, 9, 10, 11, 12, 13, 14, 15, 16, 17, 18, 19, 20, 21, 0] (by decide) rfl
  have hP : va_P D vwCl (HC aI aJ h st u_6 ++ ([(fa, .inl (aI, 12, .inl F))])) H := hP
  have hD : va_D A (HC aI aJ h st u_6 ++ ([(fa, .inl (aI, 12, .inl F))])) := hD
  refine j_topi (y := nI (sNl st)) (q_6) ?_
  refine lv_icmp_ge (tgt := 42) hx hb dL_freed_9 (by decide) (fun c_9 => ?_) (fun c_9 => ?_)
  · rw [cv_le (by omega) (by omega)] at c_9
    have hk : k = sNl st := by omega
    have hl := lv_sub (l' := [(0, .ref (h 0)), (2, .int (nI 0))]) hl [0, 2] rfl
    exact kx u_6 H _ ls _ _ hP hD hS hl (by omega) (by omega)
  · rw [cv_le (by omega) (by omega)] at c_9
    have hk : k < sNl st := by omega
    refine lv_iload_n hx hb dL_freed_12 rfl (lv_at hl 2 rfl) ?_
    refine lv_aload_n hx hb dL_freed_13 rfl (lv_at hl 1 rfl) ?_
    refine lv_iload_n hx hb dL_freed_14 rfl (lv_at hl 3 rfl) ?_
    refine j_iald (v := F k) hx hb hK hP 21 0 rfl rfl (by omega) (by omega) (rfl) dL_freed_15 ?_
    refine lv_if_lt (tgt := 33) hx hb dL_freed_16 (by decide) (fun c_16 => ?_) (fun c_16 => ?_)
    · refine lv_iconst (v := nI 0) hx hb dL_freed_33 (by decide) ?_
      refine lv_iadd hx hb dL_freed_34 ?_
      refine j_topi (y := nI 0) (rfl) ?_
      refine lv_istore_n (lv' := [(2, .int (nI 0)), (0, .ref (h 0)), (1, .ref fa), (3, .int (nI k))]) hx hb dL_freed_35 rfl hl (by decide) rfl (fun ls hl => ?_)
      refine lv_iinc (v := nI (k + 1)) (lv' := [(3, .int (nI (k + 1))), (2, .int (nI 0)), (0, .ref (h 0)), (1, .ref fa)]) hx hb dL_freed_36 hl (k := 3) rfl (inc_nI _ _) (by decide) rfl (fun ls hl => ?_)
      refine lv_goto (tgt := 4) hx hb dL_freed_39 (by decide) ?_
      have hl := lv_sub (l' := [(0, .ref (h 0)), (1, .ref fa), (2, .int (nI 0)), (3, .int (nI (k + 1)))]) hl [2, 3, 1, 0] rfl
      exact kn u_6 H _ ls _ _ hk hP hD hS hl (by omega) (by omega)
    · have hge : (0 : Int32) ≤ F k := Int32.not_lt.mp c_16
      obtain ⟨vv, hvv⟩ := hz k hk hge
      have hv12 : vv < 12 := hmL k vv hvv
      refine lv_aload_n hx hb dL_freed_19 rfl (lv_at hl 0 rfl) ?_
      refine lv_iload_n hx hb dL_freed_20 rfl (lv_at hl 3 rfl) ?_
      refine j_calliM (vx_runSW (As := [.ref (h 0), .int (nI k)]) (rest := [.int (nI 0)]) C.fix (c_L_ofLeft l hl0 D aI aJ aZ h st u_6 (nI k) hi H.size) (vx_cwSW 2 hts gL_freed_L_ofLeft rfl rfl rfl (by decide +kernel) ⟨Nat.le_trans (m := 22) (Nat.le_of_ble_eq_true rfl) hRf, Nat.le_trans (m := 600) (Nat.le_of_ble_eq_true rfl) hRl⟩) (jxPreS hXs hA hS hN hK hP hD [0, 1, 2, 3, 4, 5, 6, 7, 8, 9, 10, 11, 12, 13, 14, 15, 16, 17, 18, 19, 20] rfl rfl (by decide)) rfl rfl hl.1 rfl (lv_room (Nat.le_of_ble_eq_true rfl)) dL_freed_21 ⟨by omega, by omega⟩) hA hP hD hS [0, 1, 2, 3, 4, 5, 6, 7, 8, 9, 10, 11, 12, 13, 14, 15, 16, 17, 18, 19, 20] [21] (wr := [(fa, .inl (aI, 12, .inl F))]) rfl rfl (by decide) (by decide) (fun r_21 u_21 H locs q_21 hP hD hS => ?_)
      have hP := hP.sub (ws' := HC aI aJ h st u_21 ++ ([(fa, .inl (aI, 12, .inl F))])) [1, 2, 3, 4, 5, 6, 7, 8, 9, 10, 11, 12, 13, 14, 15, 16, 17, 18, 19, 20, 21, 0] rfl
      have hD := hD.sub (ws' := HC aI aJ h st u_21 ++ ([(fa, .inl (aI, 12, .inl F))])) [1, 2, 3, 4, 5, 6, 7, 8, 9, 10, 11, 12, 13, 14, 15, 16, 17, 18, 19, 20, 21, 0] (by decide) rfl
      have hP : va_P D vwCl (HC aI aJ h st u_21 ++ ([(fa, .inl (aI, 12, .inl F))])) H := hP
      have hD : va_D A (HC aI aJ h st u_21 ++ ([(fa, .inl (aI, 12, .inl F))])) := hD
      refine j_topi (y := pv (sL st k)) (ol_at (ix_of (by omega) hk rfl) q_21) ?_
      refine lv_ldc (v := (-9999004)) hx hb hown L_31 dL_freed_24 ?_
      refine lv_icmp_ne (tgt := 33) hx hb dL_freed_26 (by decide) (fun c_26 => ?_) (fun c_26 => ?_)
      · clear c_26
        refine lv_iconst (v := nI 0) hx hb dL_freed_33 (by decide) ?_
        refine lv_iadd hx hb dL_freed_34 ?_
        refine j_topi (y := nI 0) (rfl) ?_
        refine lv_istore_n (lv' := [(2, .int (nI 0)), (0, .ref (h 0)), (1, .ref fa), (3, .int (nI k))]) hx hb dL_freed_35 rfl hl (by decide) rfl (fun ls hl => ?_)
        refine lv_iinc (v := nI (k + 1)) (lv' := [(3, .int (nI (k + 1))), (2, .int (nI 0)), (0, .ref (h 0)), (1, .ref fa)]) hx hb dL_freed_36 hl (k := 3) rfl (inc_nI _ _) (by decide) rfl (fun ls hl => ?_)
        refine lv_goto (tgt := 4) hx hb dL_freed_39 (by decide) ?_
        have hl := lv_sub (l' := [(0, .ref (h 0)), (1, .ref fa), (2, .int (nI 0)), (3, .int (nI (k + 1)))]) hl [2, 3, 1, 0] rfl
        exact kn u_21 H _ ls _ _ hk hP hD hS hl (by omega) (by omega)
      · exact absurd c_26 (pv_ne hvv hv12)
theorem fr_L (l : Launch) (hl0 : l.stackTraces = false) (hRf : 22 ≤ R.frames) (hRl : 600 ≤ R.locals) (C : jC p s m meth c cL_freed 4 (some .int) RL wsL_freed D (jT aI aJ aZ) args A nm) (hXs : jXs A s s.heap) (hi : HI st) (hz : ∀ z, z < sNl st → (0 : Int32) ≤ F z → ∃ v, sL st z = some v) (hRc : 26 ≤ R.cells) (hRs : 156 ≤ R.slots)
    (kx : ∀ (j : Jk) (H : Heap) (locs : List Loc) (ls : Array Slot) (c1 s1 : Nat), va_P D vwCl (HC aI aJ h st j ++ ([(fa, .inl (aI, 12, .inl F))])) H → va_D A (HC aI aJ h st j ++ ([(fa, .inl (aI, 12, .inl F))])) → va_S A s.heap H locs → lv_has ls 4 [(0, .ref (h 0)), (2, .int (nI 0))] → c1 ≤ 26 → s1 ≤ 156 → W p l e R s m args below meth c H locs c1 s1 Q (F0 m 42 ls [])) :
    ∀ (N k : Nat) (j : Jk) (H : Heap) (locs : List Loc) (ls : Array Slot) (c1 s1 : Nat), k + N = sNl st + 1 → k ≤ sNl st → va_P D vwCl (HC aI aJ h st j ++ ([(fa, .inl (aI, 12, .inl F))])) H → va_D A (HC aI aJ h st j ++ ([(fa, .inl (aI, 12, .inl F))])) → va_S A s.heap H locs → lv_has ls 4 [(0, .ref (h 0)), (1, .ref fa), (2, .int (nI 0)), (3, .int (nI k))] → c1 ≤ 2 * k → s1 ≤ 12 * k → W p l e R s m args below meth c H locs c1 s1 Q (F0 m 4 ls []) := by
  have hnl : sNl st ≤ 12 := hi.1
  intro N
  induction N with
  | zero => intro k j H locs ls c1 s1 h1 h2; omega
  | succ N ih =>
    intro k j H locs ls c1 s1 h1 h2 hP hD hS hl k1 k2
    exact fr_A1 l hl0 hRf hRl C hXs hi h2 hz hP hD hS hl (by omega) (by omega) (fun j H locs ls c2 s2 hP hD hS hl k3 k4 => kx j H locs ls c2 s2 hP hD hS hl (by omega) (by omega))
      (fun j H locs ls c2 s2 hk hP hD hS hl k3 k4 => ih (k + 1) j H locs ls c2 s2 (by omega) (by omega) hP hD hS hl (by omega) (by omega))
end FRS
set_option maxHeartbeats 4000000 in
set_option maxRecDepth 100000 in
theorem c_L_freed (l : Launch) (hl0 : l.stackTraces = false) (D : va_G) (aI aJ aZ : ClassId) (h : Nat → Nat) (fa : Nat) (st : St) (j : Jk) (F : Nat → Int32) (hi : HI st) (hz : ∀ z, z < sNl st → (0 : Int32) ≤ F z → ∃ v, sL st z = some v) (z0 : Nat) : Met l yL_freed wsL_freed ({ frames := 22, cells := 26, slots := 156, locals := 600 }) (va_Pc [.ref (h 0), .ref fa] (jXI D (jT aI aJ aZ) (WF2 aI aJ h st j fa F) z0)) (va_Qi (S := Jk) (fun r u => r = nI 0) (fun u t => jO D (jT aI aJ aZ) (va_A (WF2 aI aJ h st j fa F) z0) (WF2 aI aJ h st u fa F) t) (va_A (WF2 aI aJ h st j fa F) z0)) 26 156 (va_A (WF2 aI aJ h st j fa F) z0) := by
  refine jy_of (Qc := fun A => va_Qi (S := Jk) (fun r u => r = nI 0) (fun u t => jO D (jT aI aJ aZ) A (WF2 aI aJ h st u fa F) t) A) (own := RL) (nm := "freed") (by decide +kernel) rfl rfl rfl (Nat.le_of_ble_eq_true rfl) ?_
  intro p e s m below meth c A ls H locs C hXs hP hD hS hl
  obtain ⟨hx, hb, hml, hown, hts, hK, hA, hlocks, hr, hn, hN⟩ := id C
  have hl : lv_has ls 4 [(0, .ref (h 0)), (1, .ref fa)] := hl
  refine lv_iconst (v := nI 0) hx hb dL_freed_0 (by decide) ?_
  refine lv_istore_n (lv' := [(2, .int (nI 0)), (0, .ref (h 0)), (1, .ref fa)]) hx hb dL_freed_1 rfl hl (by decide) rfl (fun ls hl => ?_)
  refine lv_iconst (v := nI 0) hx hb dL_freed_2 (by decide) ?_
  refine lv_istore_n (lv' := [(3, .int (nI 0)), (2, .int (nI 0)), (0, .ref (h 0)), (1, .ref fa)]) hx hb dL_freed_3 rfl hl (by decide) rfl (fun ls hl => ?_)
  have hl := lv_sub (l' := [(0, .ref (h 0)), (1, .ref fa), (2, .int (nI 0)), (3, .int (nI 0))]) hl [2, 3, 1, 0] rfl
  refine fr_L l hl0 (Nat.le_refl _) (Nat.le_refl _) C hXs hi hz (Nat.le_refl _) (Nat.le_refl _) (fun j H locs ls c1 s1 hP hD hS hl k1 k2 => ?_) (sNl st + 1) 0 j H locs ls 0 0 (Nat.zero_add _) (Nat.zero_le _) hP hD hS hl (Nat.le_refl _) (Nat.le_refl _)
  refine lv_iload_n hx hb dL_freed_42 rfl (lv_at hl 1 rfl) ?_
  refine W.widen (k := 26) (n := 156) k1 k2 ?_
  exact j_iret (w1 := fun u => WF2 aI aJ h st u fa F) (post := fun r u => r = nI 0) C j hP hD hS rfl dL_freed_43
