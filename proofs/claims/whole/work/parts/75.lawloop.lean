/-! THE CLAIM OUT OF ONE WALK OF THE LAW'S BODY. Your part is whole_start (and what it stands on); all else here is the same for every law, but numbers. -/
def R_law : String := "PhasehallLaw"
def lw_P (b : Addr) (xs : List Int32) (args : Array Value) (s : State) : Prop := args = #[.ref b] ∧ s.IntsAt b xs ∧ xs.length ≤ 1536 ∧ (Jvm.Cond.and given_1 narrow_1).before args s = true
def lw_Q (_ : Array Value) (s : State) (o : Outcome) (t : State) : Prop := o = .returned (some (.int 1)) ∧ Framed s o t [] 601024 7293034
def lw_Z (below : List Frame) (a : Array Value) (s : State) : State → Prop := fun t => ∃ o, t.status = .running ∧ Ended t below o ∧ lw_Q a s o t
/-- the law's own end, with 1 on the stack, nothing written that was there before, its room as the claim has it -/
theorem lw_ret {p : Program} {l : Launch} {e : Env} {s : State} {m : MethodId} {below : List Frame} {meth : Method} {c : Code} {b : Nat} (hx : p.tables.exec = Jvm.exec) (hb : c.code = code) (hr : meth.sig.returnType = ret) (hlocks : meth.locks = false) {pc : Nat} {H : Heap} {ls : Array Slot} (hdg : decode code pc = .ok (.ireturn, 1)) : W p l e room_1 s m #[Value.ref b] below meth c H [] 601024 7293034 (lw_Z below #[Value.ref b] s) (F0 m pc ls [.int 1]) := by
  intro T hT X
  obtain ⟨fs, hret, hrun, hended, hW, hframe⟩ := X.leave (v := some (.int 1)) (hlocks := hlocks) (fun h => by rw [hr] at h; cases h)
  have hmeth' : T.vm.method? m = some meth := X.method'
  refine ⟨T.setFrames fs, ?_, .returned (some (.int 1)), hrun, hended, rfl, ⟨_, rfl⟩, hW, hframe⟩
  jvm_step X.here [X.here.top, hx, hb, hdg, hmeth', hr, ret, narrow_b1]
  (try refine ⟨rfl, ?_⟩); (try refine ⟨rfl, ?_⟩)
  first | (intro acts; rw [hret _ acts rfl rfl rfl]) | rw [hret _ _ rfl rfl rfl]
  exact Steps.refl _
/-- what holds at the law's entry: the machine, the code, the tables' words (any of lw_tbl by 'hts w (by decide +kernel)'), the script of L ints xs at the cell b, what the Statement gives of the start (any of its parts by flat_of_before) -/
def lw_At (p : Program) (s : State) (m : MethodId) (meth : Method) (c : Code) (b L : Nat) (xs : Nat → Int32) : Prop :=
  p.tables.exec = Jvm.exec ∧ c.code = code ∧ meth.sig.returnType = ret ∧ c.maxLocals = 7 ∧ s.vm.findClass R_law = some m.cls ∧ (∀ w ∈ lw_tbl, w.before #[Value.ref b] s = true) ∧ va_X b L xs s s.heap ∧ b < s.heap.size ∧ meth.locks = false ∧ (Jvm.Cond.and given_1 narrow_1).before #[Value.ref b] s = true
/-! the law: its loop -/
theorem nI_self (v : Int32) : v = nI v.toBitVec.toNat := Int32.toBitVec_inj.mp (by simp [nI])
theorem and31 (v : Int32) : ∃ n, n ≤ 31 ∧ v &&& nI 31 = nI n := by
  refine ⟨v.toBitVec.toNat &&& 31, Nat.and_le_right, ?_⟩
  rw [← fa_and, ← nI_self]
theorem law_in {L kz d : Nat} (hL : L ≤ 1536) (h : 3 * kz + 3 ≤ L) (hd : d ≤ 2) : vp_in (nI (3 * kz) + nI d) L := by
  rw [nI_add]
  intro q
  rcases q with q | q
  · have h1 := Int32.lt_iff_toInt_lt.mp q
    rw [nI_toInt (by omega)] at h1
    have h2 : (0 : Int32).toInt = 0 := rfl
    omega
  · rw [nI_clamp (by omega)] at q
    omega
set_option maxHeartbeats 4000000 in
set_option maxRecDepth 100000 in
theorem law_loop {p : Program} {e : Env} {s : State} {m : MethodId} {below : List Frame} {meth : Method} {c : Code} {D : va_G} {aI aJ aZ : ClassId} {b L : Nat} {xs : Nat → Int32} {o g k se bl dv cc ga gb ka kb sa sb bu dd pp la ba bb dr cw mo ed ol ri mu mv dq pq lq wf tq yq rq fq gl gr rc wq ot : Nat} (l : Launch) (hl0 : l.stackTraces = false) (hL : L ≤ 1536) (C : jC p s m meth c cL_law 7 (some .boolean) RL wsL_law D (jT aI aJ aZ) #[Value.ref b] (fun q => s.heap.size ≤ q) meth.name) (hXs : jXs (fun q => s.heap.size ≤ q) s s.heap) (hX : va_X b L xs s s.heap) (hbl : b < s.heap.size) :
    ∀ (N kz : Nat) (H : Heap) (locs : List Loc) (cells slots : Nat) (ls : Array Slot), kz + N = 513 → 3 * kz ≤ L → cells ≤ 40 + 4 * kz → slots ≤ 8910 + 24 * kz → lwI D aI aJ aZ (fun q => s.heap.size ≤ q) o g k se bl dv cc ga gb ka kb sa sb bu dd pp la ba bb dr cw mo ed ol ri mu mv dq pq lq wf tq yq rq fq gl gr rc wq ot H → va_S (fun q => s.heap.size ≤ q) s.heap H locs → lv_has ls 7 (lwL b o mo ot (nI (3 * kz))) → W p l e room_1 s m #[.ref b] below meth c H locs cells slots (lw_Z below #[Value.ref b] s) (F0 m 23 ls []) := by
  have hRc : room_1.cells = 601024 := rfl
  have hRs : room_1.slots = 7293034 := rfl
  have hbA : ¬ (fun q : Nat => s.heap.size ≤ q) b := Nat.not_le.mpr hbl
  obtain ⟨hx, hb, hml, hown, hts, hK, hA, hlocks, hr, hn, hN⟩ := id C
  intro N
  induction N with
  | zero => intro kz H locs cells slots ls h1 h2; omega
  | succ N ih =>
    intro kz H locs cells slots ls h1 h2 hc hs hI hS hl
    refine lv_iload hx hb dL_law_23 (lv_at hl 4 rfl) ?_
    refine lv_aload_n hx hb dL_law_25 rfl (lv_at hl 0 rfl) ?_
    refine va_slen hx hb hX hbl hbA hS dL_law_26 ?_
    refine lv_iconst (v := nI 3) hx hb dL_law_27 (by decide) ?_
    refine lv_isub hx hb dL_law_28 ?_
    have hz : (Int32.ofNat L - nI 3).toInt = (L : Int) - 3 := pk_sub_toInt (a := L) (b := 3) (by omega) (by omega)
    refine lv_icmp_gt (tgt := 1353) hx hb dL_law_29 (by decide) (fun c_29 => ?_) (fun c_29 => ?_)
    · refine lv_iconst (v := nI 1) hx hb dL_law_1353 (by decide) ?_
      refine va_forget (fun q hq => hS.2.2 q hq) ?_
      refine W.widen (k := 601024) (n := 7293034) (by omega) (by omega) ?_
      exact lw_ret hx hb hr hlocks dL_law_1354
    · have h3 : 3 * kz + 3 ≤ L := by
        have h4 : ¬ (Int32.ofNat L - nI 3).toInt < (nI (3 * kz)).toInt := fun q => c_29 (Int32.lt_iff_toInt_lt.mpr q)
        rw [hz, nI_toInt (by omega)] at h4
        omega
      have hi0 : vp_in (nI (3 * kz)) L := by have := law_in hL h3 (Nat.zero_le 2); rwa [nI_add, Nat.add_zero] at this
      have hi1 := law_in hL h3 (show 1 ≤ 2 by decide)
      have hi2 := law_in hL h3 (Nat.le_refl 2)
      have hk : lwK p l e s m below meth c (lw_Z below #[Value.ref b] s) D aI aJ aZ (fun q => s.heap.size ≤ q) o g k se bl dv cc ga gb ka kb sa sb bu dd pp la ba bb dr cw mo ed ol ri mu mv dq pq lq wf tq yq rq fq gl gr rc wq ot b (nI (3 * kz)) (cells + 4) (slots + 24) := by
        intro H locs cells2 slots2 ls hI hS hc2 hs2 hl
        refine lv_iinc (v := nI (3 * (kz + 1))) (lv' := [(4, .int (nI (3 * (kz + 1)))), (0, .ref b), (1, .ref o), (2, .ref mo), (3, .ref ot)]) hx hb dL_law_1347 hl (k := 4) rfl (by rw [show Int32.ofInt 3 = nI 3 from rfl, nI_add]; rfl) (by decide) rfl (fun ls hl => ?_)
        refine lv_goto (tgt := 23) hx hb dL_law_1350 (by decide) ?_
        exact ih (kz + 1) H locs cells2 slots2 ls (by omega) (by omega) (by omega) (by omega) hI hS (lv_sub hl [1, 2, 3, 4, 0] rfl)
      have hc4 : cells + 4 ≤ room_1.cells := by omega
      have hs4 : slots + 24 ≤ room_1.slots := by omega
      refine lv_aload_n hx hb dL_law_32 rfl (lv_at hl 0 rfl) ?_
      refine lv_iload hx hb dL_law_33 (lv_at hl 4 rfl) ?_
      refine law_ld (v := xs (nI (3 * kz)).toNatClampNeg) hx hb hX hbl hbA hS hi0 rfl dL_law_35 ?_
      refine lv_bipush (v := nI 31) hx hb dL_law_36 (by decide) ?_
      refine lv_iand hx hb dL_law_38 ?_
      obtain ⟨n, hn31, hv⟩ := and31 (xs (nI (3 * kz)).toNatClampNeg)
      refine j_topi hv ?_
      have hnt : (nI n).toInt = (n : Int) := nI_toInt (by omega)
      by_cases e0 : n = 0
      · subst e0; exact lv_tableIn (off := 121) (tgt := 160) hx hb dL_law_39 (by decide) (by decide) (by decide) (by decide) (law_c0 l hl0 C hXs hX hbl hbA hi1 hi2 hc4 hs4 hI hS hl hk)
      by_cases e1 : n = 1
      · subst e1; exact lv_tableIn (off := 165) (tgt := 204) hx hb dL_law_39 (by decide) (by decide) (by decide) (by decide) (law_c1 l hl0 C hXs hX hbl hbA hi1 hi2 hc4 hs4 hI hS hl hk)
      by_cases e2 : n = 2
      · subst e2; exact lv_tableIn (off := 209) (tgt := 248) hx hb dL_law_39 (by decide) (by decide) (by decide) (by decide) (law_c2 l hl0 C hXs hX hbl hbA hi1 hi2 hc4 hs4 hI hS hl hk)
      by_cases e3 : n = 3
      · subst e3; exact lv_tableIn (off := 222) (tgt := 261) hx hb dL_law_39 (by decide) (by decide) (by decide) (by decide) (law_c3 l hl0 C hXs hX hbl hbA hi1 hi2 hc4 hs4 hI hS hl hk)
      by_cases e4 : n = 4
      · subst e4; exact lv_tableIn (off := 235) (tgt := 274) hx hb dL_law_39 (by decide) (by decide) (by decide) (by decide) (law_c4 l hl0 C hXs hX hbl hbA hi1 hi2 hc4 hs4 hI hS hl hk)
      by_cases e5 : n = 5
      · subst e5; exact lv_tableIn (off := 248) (tgt := 287) hx hb dL_law_39 (by decide) (by decide) (by decide) (by decide) (law_c5 l hl0 C hXs hX hbl hbA hi1 hi2 hc4 hs4 hI hS hl hk)
      by_cases e6 : n = 6
      · subst e6; exact lv_tableIn (off := 323) (tgt := 362) hx hb dL_law_39 (by decide) (by decide) (by decide) (by decide) (law_c6 l hl0 C hXs hX hbl hbA hi1 hi2 hc4 hs4 hI hS hl hk)
      by_cases e7 : n = 7
      · subst e7; exact lv_tableIn (off := 398) (tgt := 437) hx hb dL_law_39 (by decide) (by decide) (by decide) (by decide) (law_c7 l hl0 C hXs hX hbl hbA hi1 hi2 hc4 hs4 hI hS hl hk)
      by_cases e8 : n = 8
      · subst e8; exact lv_tableIn (off := 473) (tgt := 512) hx hb dL_law_39 (by decide) (by decide) (by decide) (by decide) (law_c8 l hl0 C hXs hX hbl hbA hi1 hi2 hc4 hs4 hI hS hl hk)
      by_cases e9 : n = 9
      · subst e9; exact lv_tableIn (off := 486) (tgt := 525) hx hb dL_law_39 (by decide) (by decide) (by decide) (by decide) (law_c9 l hl0 C hXs hX hbl hbA hi1 hi2 hc4 hs4 hI hS hl hk)
      by_cases e10 : n = 10
      · subst e10; exact lv_tableIn (off := 542) (tgt := 581) hx hb dL_law_39 (by decide) (by decide) (by decide) (by decide) (law_c10 l hl0 C hXs hX hbl hbA hi1 hi2 hc4 hs4 hI hS hl hk)
      by_cases e11 : n = 11
      · subst e11; exact lv_tableIn (off := 598) (tgt := 637) hx hb dL_law_39 (by decide) (by decide) (by decide) (by decide) (law_c11 l hl0 C hXs hX hbl hbA hi1 hi2 hc4 hs4 hI hS hl hk)
      by_cases e12 : n = 12
      · subst e12; exact lv_tableIn (off := 611) (tgt := 650) hx hb dL_law_39 (by decide) (by decide) (by decide) (by decide) (law_c12 l hl0 C hXs hX hbl hbA hi1 hi2 hc4 hs4 hI hS hl hk)
      by_cases e13 : n = 13
      · subst e13; exact lv_tableIn (off := 667) (tgt := 706) hx hb dL_law_39 (by decide) (by decide) (by decide) (by decide) (law_c13 l hl0 C hXs hX hbl hbA hi1 hi2 hc4 hs4 hI hS hl hk)
      by_cases e14 : n = 14
      · subst e14; exact lv_tableIn (off := 723) (tgt := 762) hx hb dL_law_39 (by decide) (by decide) (by decide) (by decide) (law_c14 l hl0 C hXs hX hbl hbA hi1 hi2 hc4 hs4 hI hS hl hk)
      by_cases e15 : n = 15
      · subst e15; exact lv_tableIn (off := 736) (tgt := 775) hx hb dL_law_39 (by decide) (by decide) (by decide) (by decide) (law_c15 l hl0 C hXs hX hbl hbA hi1 hi2 hc4 hs4 hI hS hl hk)
      by_cases e16 : n = 16
      · subst e16; exact lv_tableIn (off := 792) (tgt := 831) hx hb dL_law_39 (by decide) (by decide) (by decide) (by decide) (law_c16 l hl0 C hXs hX hbl hbA hi1 hi2 hc4 hs4 hI hS hl hk)
      by_cases e17 : n = 17
      · subst e17; exact lv_tableIn (off := 848) (tgt := 887) hx hb dL_law_39 (by decide) (by decide) (by decide) (by decide) (law_c17 l hl0 C hXs hX hbl hbA hi1 hi2 hc4 hs4 hI hS hl hk)
      by_cases e18 : n = 18
      · subst e18; exact lv_tableIn (off := 861) (tgt := 900) hx hb dL_law_39 (by decide) (by decide) (by decide) (by decide) (law_c18 l hl0 C hXs hX hbl hbA hi1 hi2 hc4 hs4 hI hS hl hk)
      by_cases e19 : n = 19
      · subst e19; exact lv_tableIn (off := 917) (tgt := 956) hx hb dL_law_39 (by decide) (by decide) (by decide) (by decide) (law_c19 l hl0 C hXs hX hbl hbA hi1 hi2 hc4 hs4 hI hS hl hk)
      by_cases e20 : n = 20
      · subst e20; exact lv_tableIn (off := 992) (tgt := 1031) hx hb dL_law_39 (by decide) (by decide) (by decide) (by decide) (law_c20 l hl0 C hXs hX hbl hbA hi1 hi2 hc4 hs4 hI hS hl hk)
      by_cases e21 : n = 21
      · subst e21; exact lv_tableIn (off := 1067) (tgt := 1106) hx hb dL_law_39 (by decide) (by decide) (by decide) (by decide) (law_c21 l hl0 C hXs hX hbl hbA hi1 hi2 hc4 hs4 hI hS hl hk)
      by_cases e22 : n = 22
      · subst e22; exact lv_tableIn (off := 1142) (tgt := 1181) hx hb dL_law_39 (by decide) (by decide) (by decide) (by decide) (law_c22 l hl0 C hXs hX hbl hbA hi1 hi2 hc4 hs4 hI hS hl hk)
      by_cases e23 : n = 23
      · subst e23; exact lv_tableIn (off := 1156) (tgt := 1195) hx hb dL_law_39 (by decide) (by decide) (by decide) (by decide) (law_c23 l hl0 C hXs hX hbl hbA hi1 hi2 hc4 hs4 hI hS hl hk)
      by_cases e24 : n = 24
      · subst e24; exact lv_tableIn (off := 1219) (tgt := 1258) hx hb dL_law_39 (by decide) (by decide) (by decide) (by decide) (law_c24 l hl0 C hXs hX hbl hbA hi1 hi2 hc4 hs4 hI hS hl hk)
      by_cases e25 : n = 25
      · subst e25; exact lv_tableIn (off := 1282) (tgt := 1321) hx hb dL_law_39 (by decide) (by decide) (by decide) (by decide) (law_c25 l hl0 C hXs hX hbl hbA hi1 hi2 hc4 hs4 hI hS hl hk)
      by_cases e26 : n = 26
      · subst e26; exact lv_tableIn (off := 1295) (tgt := 1334) hx hb dL_law_39 (by decide) (by decide) (by decide) (by decide) (law_c26 l hl0 C hXs hX hbl hbA hi1 hi2 hc4 hs4 hI hS hl hk)
      refine lv_tableOut (tgt := 1347) hx hb dL_law_39 (Or.inr (by rw [hnt]; omega)) (by decide) ?_
      exact hk H locs cells slots ls hI hS (by omega) (by omega) hl
