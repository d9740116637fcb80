/-! THE CLAIM OUT OF ONE WALK OF THE LAW'S BODY. Your part is whole_start (and what it stands on); all else here is the same for every law, but numbers. -/
def R_law : String := "PhasehallLaw"
def lw_P (b : Addr) (xs : List Int32) (args : Array Value) (s : State) : Prop := args = #[.ref b] ∧ s.IntsAt b xs ∧ xs.length ≤ 260 ∧ (Jvm.Cond.and given_1 narrow_1).before args s = true
def lw_Q (_ : Array Value) (s : State) (o : Outcome) (t : State) : Prop := o = .returned (some (.int 1)) ∧ Framed s o t [] 827820 6617721
def lw_Z (below : List Frame) (a : Array Value) (s : State) : State → Prop := fun t => ∃ o, t.status = .running ∧ Ended t below o ∧ lw_Q a s o t
/-- the law's own end, with 1 on the stack, nothing written that was there before, its room as the claim has it -/
theorem lw_ret {p : Program} {l : Launch} {e : Env} {s : State} {m : MethodId} {below : List Frame} {meth : Method} {c : Code} {b : Nat} (hx : p.tables.exec = Jvm.exec) (hb : c.code = code) (hr : meth.sig.returnType = ret) (hlocks : meth.locks = false) {pc : Nat} {H : Heap} {ls : Array Slot} (hdg : decode code pc = .ok (.ireturn, 1)) : W p l e room_1 s m #[Value.ref b] below meth c H [] 827820 6617721 (lw_Z below #[Value.ref b] s) (F0 m pc ls [.int 1]) := by
  intro T hT X
  obtain ⟨fs, hret, hrun, hended, hW, hframe⟩ := X.leave (v := some (.int 1)) (hlocks := hlocks) (fun h => by rw [hr] at h; cases h)
  have hmeth' : T.vm.method? m = some meth := X.method'
  refine ⟨T.setFrames fs, ?_, .returned (some (.int 1)), hrun, hended, rfl, ⟨_, rfl⟩, hW, hframe⟩
  jvm_step X.here [X.here.top, hx, hb, hdg, hmeth', hr, ret, narrow_b1]
  (try refine ⟨rfl, ?_⟩); (try refine ⟨rfl, ?_⟩)
  first | (intro acts; rw [hret _ acts rfl rfl rfl]) | rw [hret _ _ rfl rfl rfl]
  exact Steps.refl _
/-- what holds at the law's entry: the machine, the code, the tables' words (any of lw_tbl by 'hts w (by decide +kernel)'), the script of L ints xs at the cell b, what the Statement gives of the start (any of its parts by flat_of_before) -/
def lw_At (p : Program) (s : State) (m : MethodId) (meth : Method) (c : Code) (b L : Nat) (xs : Nat → Int32) : Prop :=
  p.tables.exec = Jvm.exec ∧ c.code = code ∧ meth.sig.returnType = ret ∧ c.maxLocals = 18 ∧ s.vm.findClass R_law = some m.cls ∧ (∀ w ∈ lw_tbl, w.before #[Value.ref b] s = true) ∧ va_X b L xs s s.heap ∧ b < s.heap.size ∧ meth.locks = false ∧ (Jvm.Cond.and given_1 narrow_1).before #[Value.ref b] s = true
/-! the law: its loop -/
set_option maxHeartbeats 4000000 in
set_option maxRecDepth 100000 in
theorem law_loop {p : Program} {e : Env} {s : State} {m : MethodId} {below : List Frame} {meth : Method} {c : Code} {D : va_G} {aI aJ aZ : ClassId} {b L th wd fa : Nat} {xs : Nat → Int32} {h g : Nat → Nat} (l : Launch) (hl0 : l.stackTraces = false) (hL : L ≤ 260) (C : jC p s m meth c cL_law 18 (some .boolean) RL wsL_law D (jT aI aJ aZ) #[Value.ref b] (fun q => s.heap.size ≤ q) meth.name) (hXs : jXs (fun q => s.heap.size ≤ q) s s.heap) (hX : va_X b L xs s s.heap) (hbl : b < s.heap.size) (hth : th ≤ 60) (hwd : wd ≤ 12) :
    ∀ (N k : Nat) (st tt : St) (j jt : Jk) (F : Nat → Int32) (H : Heap) (locs : List Loc) (ls : Array Slot) (c1 s1 : Nat), k + N = 61 → k ≤ 60 → TU st tt → (∀ z, sNl st ≤ z → F z = 0) → va_P D vwCl (HC aI aJ h st j ++ (HC aI aJ g tt jt ++ ([(fa, .inl (aI, 12, .inl F))]))) H → va_D (fun q => s.heap.size ≤ q) (HC aI aJ h st j ++ (HC aI aJ g tt jt ++ ([(fa, .inl (aI, 12, .inl F))]))) → va_S (fun q => s.heap.size ≤ q) s.heap H locs → lv_has ls 18 [(0, .ref b), (1, .ref (h 0)), (2, .ref (g 0)), (3, .ref fa), (4, .int (nI th)), (5, .int (nI wd)), (6, .int (nI 1)), (7, .int (nI k))] → c1 ≤ 43 + 651 * k → s1 ≤ 8558 + 3906 * k → W p l e room_1 s m #[.ref b] below meth c H locs c1 s1 (lw_Z below #[Value.ref b] s) (F0 m 55 ls []) := by
  have hRcE : room_1.cells = 827820 := rfl
  have hRsE : room_1.slots = 6617721 := rfl
  have hRf : 24 ≤ room_1.frames := Nat.le_of_ble_eq_true rfl
  have hRl : 700 ≤ room_1.locals := Nat.le_of_ble_eq_true rfl
  have hbA : ¬ (fun q : Nat => s.heap.size ≤ q) b := Nat.not_le.mpr hbl
  intro N
  induction N with
  | zero => intro k st tt j jt F H locs ls c1 s1 h1 h2; omega
  | succ N ih =>
    intro k st tt j jt F H locs ls c1 s1 h1 h2 u hz hP hD hS hl q1 q2
    refine la_A l hl0 hRf hRl C hXs u hz hX hbl hbA (by omega) hth h2 hP hD hS hl (by omega) (by omega) (fun j jt H locs ls c2 s2 hP hD hS hl k1 k2 => ?_) (fun x j jt F H locs ls c2 s2 hx2 hkt hz hn9 hP hD hS hl k1 k2 => ?_)
    · obtain ⟨hx, hb, hml, hown, hts, hK, hA, hlocks, hr, hn, hN⟩ := id C
      refine lv_iload hx hb dL_law_625 (lv_at hl 6 rfl) ?_
      refine va_forget (fun q hq => hS.2.2 q hq) ?_
      refine W.widen (k := 827820) (n := 6617721) (by omega) (by omega) ?_
      exact lw_ret hx hb hr hlocks dL_law_627
    · have fz : ∀ (st tt : St) (j jt : Jk) (F : Nat → Int32) (H : Heap) (locs : List Loc) (ls : Array Slot) (c3 s3 : Nat), TU st tt → (∀ z, sNl st ≤ z → F z = 0) → va_P D vwCl (HC aI aJ h st j ++ (HC aI aJ g tt jt ++ ([(fa, .inl (aI, 12, .inl F))]))) H → va_D (fun q => s.heap.size ≤ q) (HC aI aJ h st j ++ (HC aI aJ g tt jt ++ ([(fa, .inl (aI, 12, .inl F))]))) → va_S (fun q => s.heap.size ≤ q) s.heap H locs → lv_has ls 18 [(0, .ref b), (1, .ref (h 0)), (2, .ref (g 0)), (3, .ref fa), (4, .int (nI th)), (5, .int (nI wd)), (6, .int (nI 1)), (7, .int (nI k)), (8, .int (nI x)), (9, .int (nI (x / 16)))] → c3 ≤ c1 + 144 → s3 ≤ s1 + 864 → W p l e room_1 s m #[.ref b] below meth c H locs c3 s3 (lw_Z below #[Value.ref b] s) (F0 m 568 ls []) := by
        intro st tt j jt F H locs ls c3 s3 u hz hP hD hS hl k3 k4
        refine la_Z l hl0 hRf hRl C hXs u hx2 hP hD hS hl (by omega) (by omega) (fun j jt H locs ls c4 s4 hP hD hS hl k5 k6 => ?_)
        exact ih (k + 1) st tt j jt F H locs ls c4 s4 (by omega) (by omega) u hz hP hD hS hl (by omega) (by omega)
      refine la_B l hl0 hRf hRl C hXs u hwd hx2 hP hD hS hl (by omega) (by omega) (fun j jt H locs ls c3 s3 hlt hP hD hS hl k3 k4 => ?_) (fun j jt H locs ls c3 s3 hrt hP hD hS hl k3 k4 => ?_) (fun j jt H locs ls c3 s3 hP hD hS hl k3 k4 => ?_) (fun j jt H locs ls c3 s3 hl1 hr1 hP hD hS hl k3 k4 => ?_)
      · exact la_C l hl0 hRf hRl C hXs u hz hn9 hlt hP hD hS hl (by omega) (by omega) (fun st tt j jt F H locs ls c4 s4 u hz hP hD hS hl k5 k6 => fz st tt j jt F H locs ls c4 s4 u hz hP hD hS hl (by omega) (by omega))
      · exact la_D l hl0 hRf hRl C hXs u hz hn9 hrt hP hD hS hl (by omega) (by omega) (fun st tt j jt F H locs ls c4 s4 u hz hP hD hS hl k5 k6 => fz st tt j jt F H locs ls c4 s4 u hz hP hD hS hl (by omega) (by omega))
      · exact la_E l hl0 hRf hRl C hXs u hz hn9 hP hD hS hl (by omega) (by omega) (fun st tt j jt F H locs ls c4 s4 u hz hP hD hS hl k5 k6 => fz st tt j jt F H locs ls c4 s4 u hz hP hD hS hl (by omega) (by omega))
      · refine la_F l hl0 hRf hRl C hXs u hl1 hr1 hx2 hP hD hS hl (by omega) (by omega) (fun i jj j jt H locs ls c4 s4 hi1 hj1 hP hD hS hl k5 k6 => ?_)
        refine la_G1 l hl0 hRf hRl C hXs u hi1 hj1 hP hD hS hl (by omega) (by omega) (fun j jt H locs ls c5 s5 hP hD hS hl k7 k8 => ?_)
        refine la_G2 l hl0 hRf hRl C hXs u hi1 hj1 hP hD hS hl (by omega) (by omega) (fun j jt H locs ls c6 s6 hP hD hS hl k9 k10 => ?_)
        refine la_G3 l hl0 hRf hRl C hXs u hi1 hj1 hP hD hS hl (by omega) (by omega) (fun j jt H locs ls c7 s7 hP hD hS hl k11 k12 => ?_)
        refine la_H l hl0 hRf hRl C hXs u hP hD hS hl (by omega) (by omega) (fun j jt H locs ls c8 s8 hE hP hD hS hl k13 k14 => ?_) (fun j jt H locs ls c8 s8 hE hP hD hS hl k13 k14 => ?_) (fun j jt H locs ls c8 s8 hP hD hS hl k13 k14 => ?_)
        · exact la_I l hl0 hRf hRl C hXs u hz hn9 hi1 hj1 hE hP hD hS hl (by omega) (by omega) (fun st tt j jt F H locs ls c9 s9 u hz hP hD hS hl k15 k16 => fz st tt j jt F H locs ls c9 s9 u hz hP hD hS hl (by omega) (by omega))
        · exact la_J l hl0 hRf hRl C hXs u hz hn9 hi1 hj1 hE hP hD hS hl (by omega) (by omega) (fun st tt j jt F H locs ls c9 s9 u hz hP hD hS hl k15 k16 => fz st tt j jt F H locs ls c9 s9 u hz hP hD hS hl (by omega) (by omega))
        · exact fz st tt j jt F H locs ls c8 s8 u hz hP hD hS hl (by omega) (by omega)
